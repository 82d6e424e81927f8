/** Parts of a size that is asked for, or with a type that is asked for. */
public final class Shapes {
    private Shapes() { }

    /** A part of this size, of few parts. */
    static int sized(Recorded x, int size) {
        if (size == 1) {
            return x.plain(0);
        }
        if (size % 2 == 0) {
            return x.wheel(0, sized(x, size - 1));
        }
        int half = sized(x, (size - 1) / 2);
        return x.axle(half, half);
    }

    /** A part whose type has so many codes (an odd number): axles and, where they end, weights. */
    static int weights(Recorded x, int codes) {
        if (codes == 1) {
            return x.plain(0);
        }
        int half = (codes - 1) / 2;
        if (half % 2 == 1) {
            int twice = twice(x);
            return x.tell(9, weights(x, half), twice);
        }
        int weight = x.plain(0);
        return x.axle(weight, weights(x, codes - 2));
    }

    /** An axle of name 9 on both sides. */
    private static int twice(Recorded x) {
        for (int i = 0; i < x.count(0); i++) {
            boolean same = x.part(i, 0) == 6 && x.part(i, 1) == x.part(i, 2);
            if (same && x.part(x.part(i, 1), 4) == 9) {
                return i;
            }
        }
        int nine = x.name(9);
        return x.axle(nine, nine);
    }

    /** A wheel from the type of the one to that of the other one; name 8 is taken for it. */
    static int wheelOf(Recorded x, int flag, int from, int to) {
        int eight = x.name(8);
        return x.wheel(8, x.tell(9, x.either(flag, eight, from), to));
    }
}
