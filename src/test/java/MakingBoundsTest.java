import java.util.Arrays;
import java.util.List;

/** The boundary cases of making and of undoing: promises 1 to 10, and what "Terms" says of parts. */
public final class MakingBoundsTest {
    private static final int MOST_PARTS = 40;
    private static final int MOST_SIZE = 60;
    private static final int NO_LABEL = -1;

    private interface Make {
        int make(Recorded x, int label, int[] of);
    }

    /** A call that makes a part: of how many parts, and the greatest name, side or sort. */
    private record Maker(int sort, String call, int parts, int most, Make make) {
        int with(Recorded x, int label, int... of) {
            return make.make(x, label, of);
        }

        boolean labelled() {
            return most != NO_LABEL;
        }

        /** A label that is taken. */
        int label() {
            return labelled() ? most : 0;
        }
    }

    private static final List<Maker> MAKERS = List.of(
        new Maker(1, "plain", 0, 1, (x, label, of) -> x.plain(label)),
        new Maker(2, "name", 0, 9, (x, label, of) -> x.name(label)),
        new Maker(3, "wheel", 1, 9, (x, label, of) -> x.wheel(label, of[0])),
        new Maker(4, "turn", 2, NO_LABEL, (x, label, of) -> x.turn(of[0], of[1])),
        new Maker(5, "tell", 2, 9, (x, label, of) -> x.tell(label, of[0], of[1])),
        new Maker(6, "axle", 2, NO_LABEL, (x, label, of) -> x.axle(of[0], of[1])),
        new Maker(7, "end", 1, 1, (x, label, of) -> x.end(of[0], label)),
        new Maker(8, "either", 3, NO_LABEL, (x, label, of) -> x.either(of[0], of[1], of[2])));

    private static int[] all(int number, int part) {
        int[] of = new int[number];
        Arrays.fill(of, part);
        return of;
    }

    private static int[] allBut(int number, int part, int place, int other) {
        int[] of = all(number, part);
        of[place] = other;
        return of;
    }

    private static Recorded withParts(int number) {
        Recorded x = new Recorded();
        for (int i = 0; i < number; i++) {
            x.plain(i % 2);
        }
        return x;
    }

    // ---- a new object

    private static void empty() {
        Checks.sentence("Creates a mill without parts");
        Recorded x = new Recorded();
        for (int what = 0; what < 6; what++) {
            Checks.due("count " + what, x.count(what), 0);
        }
        Checks.due("longest", x.longest(), -1);
        Checks.due("mean", x.mean(), 0.0);
        Checks.due("digest", x.digest(), 1417343378557L);
        Checks.refused(x, "undo of none", x::undo, Checks.STATE);
        Checks.refused(x, "part of none", () -> x.part(0, 0), Checks.INDEX);
        Checks.refused(x, "type of none", () -> x.type(0, 0), Checks.INDEX);
        Checks.refused(x, "code of none", () -> x.code(0, 0), Checks.INDEX);
        Checks.refused(x, "same of none", () -> x.same(0, 0), Checks.INDEX);
        Checks.refused(x, "fits of none", () -> x.fits(0, 0), Checks.INDEX);
        Checks.refused(x, "goes of none", () -> x.goes(0, 0), Checks.INDEX);
        Checks.refused(x, "first of none", () -> x.first(0), Checks.INDEX);
    }

    private static void makersOnEmpty() {
        Checks.sentence("IndexOutOfBoundsException if there is no such part");
        for (Maker m : MAKERS) {
            Recorded x = new Recorded();
            if (m.parts() > 0) {
                Checks.refused(x, m.call() + " of part 0 of none",
                    () -> m.with(x, m.label(), all(m.parts(), 0)), Checks.INDEX);
            }
        }
    }

    // ---- how many parts

    private static void fortieth() {
        Checks.sentence("There are at most 40, numbered from 0 in the order of their making");
        for (Maker m : MAKERS) {
            Recorded x = withParts(MOST_PARTS - 1);
            int[] of = all(m.parts(), 0);
            Checks.due(m.call() + " as the 40th", m.with(x, m.label(), of), MOST_PARTS - 1);
            Checks.due("parts behind " + m.call(), x.count(0), MOST_PARTS);
            Checks.refused(x, m.call() + " as the 41st", () -> m.with(x, m.label(), of), Checks.STATE);
            Checks.due("undo of the 40th", x.undo(), MOST_PARTS - 1);
            Checks.due(m.call() + " as the 40th again", m.with(x, m.label(), of), MOST_PARTS - 1);
            Checks.refused(x, m.call() + " as the 41st again", () -> m.with(x, m.label(), of), Checks.STATE);
        }
    }

    private static void allSorts() {
        Checks.sentence("a part is of a sort, and made of parts that are there already (they stay, ..)");
        Recorded x = new Recorded();
        String[] facts = new String[MOST_PARTS];
        String[] types = new String[MOST_PARTS];
        for (int i = 0; i < MOST_PARTS; i++) {
            Maker m = MAKERS.get(i % MAKERS.size());
            int[] of = new int[m.parts()];
            for (int k = 0; k < of.length; k++) {
                of[k] = Math.max(0, i % 8 - 1 - k);
            }
            Checks.due("part " + i, m.with(x, m.labelled() ? i % (m.most() + 1) : 0, of), i);
            Checks.due("parts", x.count(0), i + 1);
            facts[i] = x.facts(i);
            types[i] = x.types(i) + ": " + x.row(i);
        }
        for (int i = 0; i < MOST_PARTS; i++) {
            Checks.due("part " + i + " with 40", x.facts(i), facts[i]);
            Checks.due("type " + i + " with 40", x.types(i) + ": " + x.row(i), types[i]);
        }
    }

    private static void usedAgain() {
        Checks.sentence("(they stay, and can be used again; each use is by itself)");
        Recorded x = new Recorded();
        int same = x.wheel(3, x.name(3));
        Checks.typed(x, "an axle of twice the same", x.axle(same, same), "3 2 10 10 2 11 11");
        Checks.typed(x, "turned by itself", x.turn(same, same), "2 10 10");
        int one = x.turn(same, x.plain(0));
        int two = x.turn(same, x.plain(1));
        Checks.typed(x, "turned by two", x.axle(one, two), "3 0 1");
        Checks.typed(x, "it stays", same, "2 10 10");
    }

    // ---- how great a part is

    private static void sizesOfOne() {
        Checks.sentence("The size of a part is 1 and the sizes of the parts of which it is made");
        for (Maker m : MAKERS) {
            Recorded x = new Recorded();
            x.plain(1);
            int[] sizes = {x.axle(0, 0), x.wheel(0, 1), x.end(2, 0)};
            for (int place = 0; place < m.parts(); place++) {
                for (int i = 0; i < sizes.length; i++) {
                    int made = m.with(x, m.label(), allBut(m.parts(), 0, place, sizes[i]));
                    Checks.due("size of " + m.call() + ", place " + place, x.part(made, 5), m.parts() + 3 + i);
                }
            }
            int made = m.with(x, m.label(), all(m.parts(), 1));
            Checks.due("size of " + m.call() + " of the same", x.part(made, 5), 1 + 3 * m.parts());
        }
    }

    /** Each place by itself: one part is as great as it can be, the others are of size 1. */
    private static void greatestAtPlaces() {
        Checks.sentence("it is 60 at most");
        for (Maker m : MAKERS) {
            for (int place = 0; place < m.parts(); place++) {
                Recorded x = new Recorded();
                int one = x.plain(1);
                int fits = Shapes.sized(x, MOST_SIZE - m.parts());
                int tooGreat = Shapes.sized(x, MOST_SIZE - m.parts() + 1);
                int made = m.with(x, m.label(), allBut(m.parts(), one, place, fits));
                Checks.due(m.call() + " of 60, place " + place, x.part(made, 5), MOST_SIZE);
                int[] of = allBut(m.parts(), one, place, tooGreat);
                Checks.refused(x, m.call() + " of 61, place " + place, () -> m.with(x, m.label(), of), Checks.STATE);
                int[] greatest = all(m.parts(), made);
                Checks.refused(x, m.call() + " of the greatest", () -> m.with(x, m.label(), greatest), Checks.STATE);
            }
        }
    }

    private static void greatestTogether() {
        Checks.sentence("it would be greater than 60");
        Recorded x = new Recorded();
        int nineteen = Shapes.sized(x, 19);
        int twenty = Shapes.sized(x, 20);
        int twentyNine = Shapes.sized(x, 29);
        int thirty = x.wheel(1, twentyNine);
        Checks.due("turn of 60", x.part(x.turn(twentyNine, thirty), 5), 60);
        Checks.due("tell of 60", x.part(x.tell(0, thirty, twentyNine), 5), 60);
        Checks.due("axle of 60", x.part(x.axle(twentyNine, thirty), 5), 60);
        Checks.due("either of 60", x.part(x.either(twenty, twenty, nineteen), 5), 60);
        Checks.refused(x, "turn of 61", () -> x.turn(thirty, thirty), Checks.STATE);
        Checks.refused(x, "tell of 61", () -> x.tell(0, thirty, thirty), Checks.STATE);
        Checks.refused(x, "axle of 61", () -> x.axle(thirty, thirty), Checks.STATE);
        Checks.refused(x, "either of 61", () -> x.either(twenty, twenty, twenty), Checks.STATE);
    }

    // ---- what is refused, and what first

    private static void labels() {
        for (Maker m : MAKERS) {
            if (!m.labelled()) {
                continue;
            }
            Checks.sentence(m.call() + ": not 0 to " + m.most());
            Recorded x = withParts(2);
            int[] of = all(m.parts(), 0);
            for (int label = 0; label <= m.most(); label++) {
                int made = m.with(x, label, of);
                Checks.due(m.call() + " " + label, made, 2 + label);
                int want = m.sort() == 1 ? -1 : label;
                Checks.due("what it tells of " + label, x.part(made, 4), want);
                Checks.due("its sort", x.part(made, 0), m.sort() == 1 ? label : m.sort());
            }
            for (int label : new int[] {-1, m.most() + 1, Integer.MIN_VALUE, Integer.MAX_VALUE}) {
                Checks.refused(x, m.call() + " " + label, () -> m.with(x, label, of), Checks.ARGUMENT);
            }
        }
    }

    private static void parts() {
        Checks.sentence("IndexOutOfBoundsException if there is no such part");
        for (Maker m : MAKERS) {
            for (int place = 0; place < m.parts(); place++) {
                Recorded x = withParts(3);
                int made = m.with(x, m.label(), allBut(m.parts(), 1, place, 0));
                Checks.due(m.call() + " of the first part, place " + place, x.part(made, 1 + place), 0);
                made = m.with(x, m.label(), allBut(m.parts(), 1, place, made));
                Checks.due(m.call() + " of the last part, place " + place, x.part(made, 1 + place), 3);
                for (int none : new int[] {-1, 5, 40, Integer.MIN_VALUE, Integer.MAX_VALUE}) {
                    int[] of = allBut(m.parts(), 1, place, none);
                    Checks.refused(x, m.call() + " of " + none + ", place " + place,
                        () -> m.with(x, m.label(), of), Checks.INDEX);
                }
            }
        }
    }

    /** A mill of 40 parts, the last one of 60: each call with it would be refused for both. */
    private static Recorded fullAndGreat() {
        Recorded x = new Recorded();
        int most = Shapes.sized(x, MOST_SIZE);
        while (x.count(0) < MOST_PARTS - 1) {
            x.plain(1);
        }
        x.end(most - 1, 0);
        return x;
    }

    private static void wrongOnes(Recorded x, Maker m, int part, String when) {
        for (int place = 0; place < m.parts(); place++) {
            for (int none : new int[] {-1, x.count(0)}) {
                int[] of = allBut(m.parts(), part, place, none);
                Checks.refused(x, m.call() + " of no part at " + place + when,
                    () -> m.with(x, m.label(), of), Checks.INDEX);
                if (m.labelled()) {
                    Checks.refused(x, m.call() + " of no part at " + place + " and no name or side" + when,
                        () -> m.with(x, m.most() + 1, of), Checks.INDEX);
                }
            }
        }
        int[] of = all(m.parts(), part);
        if (m.labelled()) {
            Checks.refused(x, m.call() + " of no name or side" + when,
                () -> m.with(x, m.most() + 1, of), Checks.ARGUMENT);
            Checks.refused(x, m.call() + " of a name or side below 0" + when,
                () -> m.with(x, -1, of), Checks.ARGUMENT);
        }
    }

    private static void several() {
        Checks.sentence("If several exceptions apply, the one that is named first is thrown");
        for (Maker m : MAKERS) {
            Recorded small = withParts(2);
            wrongOnes(small, m, 1, "");
            Recorded full = withParts(MOST_PARTS);
            wrongOnes(full, m, 39, ", with 40 parts");
            Recorded great = new Recorded();
            int most = Shapes.sized(great, MOST_SIZE);
            wrongOnes(great, m, most, ", as it was too great");
            Recorded both = fullAndGreat();
            wrongOnes(both, m, MOST_PARTS - 1, ", with 40 parts, as it was too great");
            Checks.refused(both, m.call() + ", with 40 parts, too great",
                () -> m.with(both, m.label(), all(m.parts(), MOST_PARTS - 1)), Checks.STATE);
        }
    }

    /** The same makings with refused calls between them make the same mill. */
    private static void refusedBetween() {
        Checks.sentence("A method that throws an exception changes nothing");
        Recorded x = new Recorded();
        Recorded y = new Recorded();
        for (int i = 0; i < 24; i++) {
            Maker m = MAKERS.get(i % MAKERS.size());
            int[] of = all(m.parts(), i - 1);
            int label = m.labelled() ? i % (m.most() + 1) : 0;
            for (Maker other : MAKERS) {
                Recorded.told(() -> other.with(y, other.most() + 1, all(other.parts(), y.count(0))));
            }
            String made = Recorded.told(() -> m.with(x, label, of));
            Checks.due(m.call() + " behind refused calls", Recorded.told(() -> m.with(y, label, of)), made);
            Checks.due("digest behind refused calls", y.digest(), x.digest());
        }
        Checks.due("all answers behind refused calls", y.everything(), x.everything());
    }

    // ---- undoing

    private static void undoes() {
        Checks.sentence("Breaks the latest part off. Returns its number");
        for (Maker m : MAKERS) {
            Recorded x = withParts(3);
            List<String> before = x.everything();
            int made = m.with(x, m.label(), all(m.parts(), 2));
            Checks.due("undo of " + m.call(), x.undo(), made);
            Checks.due("all is as before " + m.call(), x.everything(), before);
            Checks.due(m.call() + " has the number again", m.with(x, m.label(), all(m.parts(), 1)), made);
            Checks.refused(x, "the part behind it", () -> x.part(made + 1, 0), Checks.INDEX);
        }
    }

    private static void undoesAll() {
        Checks.sentence("undo: IllegalStateException if there is none");
        Recorded x = withParts(MOST_PARTS);
        for (int i = MOST_PARTS - 1; i >= 0; i--) {
            Checks.due("undo with " + (i + 1), x.undo(), i);
            Checks.due("parts behind it", x.count(0), i);
        }
        Checks.refused(x, "undo of none", x::undo, Checks.STATE);
        Checks.refused(x, "undo of none again", x::undo, Checks.STATE);
        Checks.due("as a new object", x.everything(), new Recorded().everything());
        Checks.due("the first part again", x.name(1), 0);
        Checks.faulty(x, "it is another one", 0, 1, 0);
        Checks.due("undo", x.undo(), 0);
        Checks.refused(x, "undo of none behind it", x::undo, Checks.STATE);
    }

    /** The number of a part that is gone is given to another one, with nothing left of the first. */
    private static void takesItsPlace() {
        Checks.sentence("Breaks the latest part off");
        for (Maker gone : MAKERS) {
            for (Maker next : MAKERS) {
                Recorded x = withParts(2);
                Recorded y = withParts(2);
                gone.with(x, gone.label(), all(gone.parts(), 1));
                x.undo();
                int made = next.with(x, 0, all(next.parts(), 0));
                Checks.due(next.call() + " has the number of " + gone.call(),
                    made, next.with(y, 0, all(next.parts(), 0)));
                Checks.due("digest of " + next.call() + " in the place of " + gone.call(), x.digest(), y.digest());
            }
        }
    }

    // ---- how many calls

    private static void lastCall() {
        Checks.sentence("An object is used for at most 512 calls after it has been made");
        GearTypes x = new GearTypes();
        for (int i = 0; i < 255; i++) {
            Checks.due("plain", x.plain(i % 2), 0);
            Checks.due("undo", x.undo(), 0);
        }
        Checks.due("the 511th call", x.name(9), 0);
        Checks.due("the 512th call", x.type(0, 0), 1);
        GearTypes y = new GearTypes();
        for (int i = 0; i < 40; i++) {
            Checks.due("plain", y.plain(0), i);
        }
        for (int i = 40; i < 511; i++) {
            Checks.due("refused call " + i, Recorded.told(() -> y.plain(0)), Checks.STATE);
        }
        Checks.due("the 512th call", y.mean(), 1.0);
    }

    public static void main(String[] args) {
        empty();
        makersOnEmpty();
        fortieth();
        allSorts();
        usedAgain();
        sizesOfOne();
        greatestAtPlaces();
        greatestTogether();
        labels();
        parts();
        several();
        refusedBetween();
        undoes();
        undoesAll();
        takesItsPlace();
        lastCall();
        Checks.end();
    }
}
