import java.util.ArrayList;
import java.util.List;
import java.util.function.ToIntFunction;

/**
 * An object that a test can ask as often as it likes. What an object answers behind its 512th call
 * is free, so one that has had so many is put away, and another one is made by the same makings, the
 * refused ones too: what a refused call has changed still shows.
 */
public final class Recorded {
    static final int MOST_CALLS = 512;
    private static final int[] BESIDE = {Integer.MIN_VALUE, -1, Integer.MAX_VALUE};

    private final List<ToIntFunction<GearTypes>> makings = new ArrayList<>();
    private GearTypes now = new GearTypes();
    private int calls = 0;

    /** A call's answer, or the name of what it throws. */
    interface Call {
        Object answer();
    }

    static String told(Call call) {
        try {
            return String.valueOf(call.answer());
        } catch (RuntimeException e) {
            return e.getClass().getName().replace("java.lang.", "");
        }
    }

    private void makeAnew() {
        now = new GearTypes();
        calls = 0;
        for (ToIntFunction<GearTypes> making : makings) {
            calls++;
            told(() -> making.applyAsInt(now));
        }
        if (calls >= MOST_CALLS) {
            throw new AssertionError("a test makes too much of one object");
        }
    }

    private GearTypes asked() {
        if (calls >= MOST_CALLS) {
            makeAnew();
        }
        calls++;
        return now;
    }

    private int made(ToIntFunction<GearTypes> making) {
        GearTypes x = asked();
        makings.add(making);
        return making.applyAsInt(x);
    }

    // ---- the calls of the class

    int plain(int sort) {
        return made(x -> x.plain(sort));
    }

    int name(int name) {
        return made(x -> x.name(name));
    }

    int wheel(int name, int inside) {
        return made(x -> x.wheel(name, inside));
    }

    int turn(int wheel, int by) {
        return made(x -> x.turn(wheel, by));
    }

    int tell(int name, int told, int inside) {
        return made(x -> x.tell(name, told, inside));
    }

    int axle(int left, int right) {
        return made(x -> x.axle(left, right));
    }

    int end(int axle, int side) {
        return made(x -> x.end(axle, side));
    }

    int either(int flag, int a, int b) {
        return made(x -> x.either(flag, a, b));
    }

    int undo() {
        return made(GearTypes::undo);
    }

    int part(int part, int what) {
        return asked().part(part, what);
    }

    int type(int part, int what) {
        return asked().type(part, what);
    }

    int code(int part, int place) {
        return asked().code(part, place);
    }

    int count(int what) {
        return asked().count(what);
    }

    boolean same(int a, int b) {
        return asked().same(a, b);
    }

    boolean fits(int a, int b) {
        return asked().fits(a, b);
    }

    int goes(int a, int b) {
        return asked().goes(a, b);
    }

    int first(int part) {
        return asked().first(part);
    }

    int longest() {
        return asked().longest();
    }

    double mean() {
        return asked().mean();
    }

    long digest() {
        return asked().digest();
    }

    // ---- all that it answers

    /** What part() tells, in its order. */
    String facts(int part) {
        StringBuilder s = new StringBuilder();
        for (int what = 0; what < 7; what++) {
            s.append(what == 0 ? "" : " ").append(part(part, what));
        }
        return s.toString();
    }

    /** What type() tells, in its order. */
    String types(int part) {
        StringBuilder s = new StringBuilder();
        for (int what = 0; what < 5; what++) {
            s.append(what == 0 ? "" : " ").append(type(part, what));
        }
        return s.toString();
    }

    String row(int part) {
        StringBuilder s = new StringBuilder();
        int codes = type(part, 2);
        for (int place = 0; place < codes; place++) {
            s.append(place == 0 ? "" : " ").append(code(part, place));
        }
        return s.toString();
    }

    /** The answer of each question, those that are refused too, and what can be made or undone next. */
    List<String> everything() {
        List<String> all = new ArrayList<>();
        askAll(all);
        makeNext(all);
        undoAll(all);
        return all;
    }

    private void askAll(List<String> all) {
        int parts = count(0);
        for (int what = -1; what < 7; what++) {
            int w = what;
            all.add("count " + w + ": " + told(() -> count(w)));
        }
        all.add("longest: " + longest());
        all.add("mean: " + mean());
        all.add("digest: " + digest());
        for (int part = 0; part < parts; part++) {
            askPart(all, part);
            for (int other = 0; other < parts; other++) {
                askPair(all, part, other);
            }
            for (int none : new int[] {-1, parts}) {
                askPair(all, part, none);
                askPair(all, none, part);
            }
        }
        askPart(all, parts);
        for (int none : BESIDE) {
            askPart(all, none);
            askPair(all, none, none);
        }
    }

    private void askPart(List<String> all, int part) {
        for (int what = -1; what < 8; what++) {
            int w = what;
            all.add("part " + part + " " + w + ": " + told(() -> part(part, w)));
            all.add("type " + part + " " + w + ": " + told(() -> type(part, w)));
        }
        boolean there = part >= 0 && part < count(0);
        int codes = there ? type(part, 2) : 1;
        for (int place = -1; place <= codes; place++) {
            int p = place;
            all.add("code " + part + " " + p + ": " + told(() -> code(part, p)));
        }
        all.add("first " + part + ": " + told(() -> first(part)));
    }

    private void askPair(List<String> all, int a, int b) {
        all.add("same " + a + " " + b + ": " + told(() -> same(a, b)));
        all.add("fits " + a + " " + b + ": " + told(() -> fits(a, b)));
        all.add("goes " + a + " " + b + ": " + told(() -> goes(a, b)));
    }

    /** Room for some calls more on an object that no other test has, so that this one stays as it is. */
    private GearTypes another() {
        makeAnew();
        GearTypes x = now;
        makeAnew();
        return x;
    }

    private void makeNext(List<String> all) {
        GearTypes x = another();
        all.add("next plain: " + told(() -> x.plain(1)));
        all.add("next name: " + told(() -> x.name(9)));
        all.add("next wheel: " + told(() -> x.wheel(9, x.count(0) - 1)));
        all.add("next axle: " + told(() -> x.axle(x.count(0) - 1, 0)));
        all.add("next digest: " + x.digest());
    }

    private void undoAll(List<String> all) {
        GearTypes x = another();
        int parts = x.count(0);
        for (int i = 0; i <= parts; i++) {
            all.add("undo: " + told(x::undo) + ", then digest: " + x.digest());
        }
    }
}
