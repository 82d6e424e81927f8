import java.math.BigInteger;
import java.util.ArrayList;
import java.util.List;

/** The boundary cases of asking: promises 11 to 21. */
public final class AskingBoundsTest {
    private static final int[] NEVER = {-1, Integer.MIN_VALUE, Integer.MAX_VALUE};

    private interface Ask {
        Object ask(int number);
    }

    /** Refused for each number below 0, for the bound and for those far off. */
    private static void refusedBeside(Recorded x, String call, int bound, Ask ask) {
        for (int number : new int[] {NEVER[0], NEVER[1], NEVER[2], bound, bound + 1}) {
            Checks.refused(x, call + " " + number, () -> ask.ask(number), Checks.INDEX);
        }
    }

    /** A part of each sort, with types and with each fault but the fourth; 12 parts. */
    private static Recorded mixed() {
        Recorded x = new Recorded();
        x.plain(0);
        x.plain(1);
        x.name(4);
        x.wheel(4, 2);
        x.turn(3, 0);
        x.tell(7, 3, 1);
        x.axle(0, 3);
        x.end(6, 1);
        x.either(1, 0, 4);
        x.turn(0, 0);
        x.wheel(4, x.turn(2, 2));
        return x;
    }

    // ---- parts that there are not

    private static void noSuchPart() {
        Checks.sentence("IndexOutOfBoundsException if there is no such part");
        Recorded x = mixed();
        int bound = x.count(0);
        refusedBeside(x, "part", bound, p -> x.part(p, 0));
        refusedBeside(x, "type", bound, p -> x.type(p, 0));
        refusedBeside(x, "code", bound, p -> x.code(p, 0));
        refusedBeside(x, "first", bound, p -> x.first(p));
        refusedBeside(x, "same of the first", bound, p -> x.same(p, 0));
        refusedBeside(x, "same of the second", bound, p -> x.same(0, p));
        refusedBeside(x, "fits of the first", bound, p -> x.fits(p, 0));
        refusedBeside(x, "fits of the second", bound, p -> x.fits(0, p));
        refusedBeside(x, "goes of the first", bound, p -> x.goes(p, 0));
        refusedBeside(x, "goes of the second", bound, p -> x.goes(0, p));
        Checks.sentence("also where the part that there is has a fault");
        refusedBeside(x, "same", bound, p -> x.same(2, p));
        refusedBeside(x, "fits", bound, p -> x.fits(2, p));
        refusedBeside(x, "goes", bound, p -> x.goes(2, p));
    }

    private static void lastPart() {
        Checks.sentence("a part");
        Recorded x = new Recorded();
        for (int i = 0; i < 40; i++) {
            x.plain(i / 39);
        }
        Checks.due("part of the 40th", x.part(39, 0), 1);
        Checks.due("type of the 40th", x.type(39, 2), 1);
        Checks.due("code of the 40th", x.code(39, 0), 1);
        Checks.due("same of the 40th and the first", x.same(39, 0), false);
        Checks.due("same of the 40th", x.same(39, 39), true);
        Checks.due("fits of the 40th", x.fits(39, 39), true);
        Checks.due("fits of the first and the 40th", x.fits(0, 39), false);
        Checks.due("goes of the 40th", x.goes(39, 39), 2);
        Checks.due("first of the 40th", x.first(39), -1);
        refusedBeside(x, "part with 40", 40, p -> x.part(p, 0));
        refusedBeside(x, "type with 40", 40, p -> x.type(p, 0));
        refusedBeside(x, "code with 40", 40, p -> x.code(p, 0));
        refusedBeside(x, "same with 40", 40, p -> x.same(p, 0));
        refusedBeside(x, "fits with 40", 40, p -> x.fits(0, p));
        refusedBeside(x, "goes with 40", 40, p -> x.goes(0, p));
        refusedBeside(x, "first with 40", 40, p -> x.first(p));
    }

    private static void firstPart() {
        Checks.sentence("numbered from 0");
        Recorded x = new Recorded();
        x.plain(1);
        x.plain(0);
        int wheel = x.wheel(0, x.name(0));
        Checks.due("part of the first", x.part(0, 0), 1);
        Checks.due("type of the first", x.types(0), "0 -1 1 0 1");
        Checks.due("code of the first", x.code(0, 0), 1);
        Checks.due("same of the first", x.same(0, 0), true);
        Checks.due("same of the first and another one", x.same(0, 1), false);
        Checks.due("fits of the first", x.fits(0, 0), true);
        Checks.due("fits of the first and another one", x.fits(0, 1), false);
        Checks.due("fits of another one and the first", x.fits(1, 0), false);
        Checks.due("goes of the first", x.goes(0, 1), 2);
        Checks.due("goes with the first", x.goes(wheel, 0), 0);
        Checks.due("first of the first", x.first(0), -1);
        Checks.due("first is the first", x.first(wheel), 0);
    }

    private static void noSuchThing() {
        Recorded x = mixed();
        Checks.sentence("or what is not 0 to 6");
        refusedBeside(x, "part what", 7, what -> x.part(0, what));
        Checks.sentence("or what is not 0 to 4");
        refusedBeside(x, "type what", 5, what -> x.type(0, what));
        refusedBeside(x, "type with a fault, what", 5, what -> x.type(2, what));
        Checks.sentence("IndexOutOfBoundsException if what is not 0 to 5");
        refusedBeside(x, "count what", 6, what -> x.count(what));
        Checks.sentence("or no such place (none with a fault)");
        refusedBeside(x, "code of one code, place", 1, place -> x.code(0, place));
        refusedBeside(x, "code of three codes, place", 3, place -> x.code(3, place));
        refusedBeside(x, "code of five codes, place", 5, place -> x.code(6, place));
        for (int faulty : new int[] {2, 9, 10, 11}) {
            refusedBeside(x, "code with a fault, place", 0, place -> x.code(faulty, place));
        }
        Checks.due("the first code", x.code(6, 0), 3);
        Checks.due("the last code", x.code(6, 4), 10);
        Recorded y = new Recorded();
        int most = Shapes.weights(y, 59);
        Checks.due("the first of 59", y.code(most, 0), 3);
        Checks.due("the last of 59", y.code(most, 58), 0);
        refusedBeside(y, "code of 59, place", 59, place -> y.code(most, place));
        int more = y.wheel(0, most);
        refusedBeside(y, "code of a row that is too long", 0, place -> y.code(more, place));
    }

    // ---- part

    private static void factsOfEachSort() {
        Checks.sentence("0 its sort, 1 its first part, 2, 3 (-1 without), 4 its name, or its side, -1, 5, 6");
        Recorded x = mixed();
        String[] due = {
            "0 -1 -1 -1 -1 1 1", "1 -1 -1 -1 -1 1 1", "2 -1 -1 -1 4 1 1", "3 2 -1 -1 4 2 2", "4 3 0 -1 -1 4 3",
            "5 3 1 -1 7 4 3", "6 0 3 -1 -1 4 3", "7 6 -1 -1 1 5 4", "8 1 0 4 -1 7 4", "4 0 0 -1 -1 3 2",
            "4 2 2 -1 -1 3 2", "3 10 -1 -1 4 4 3",
        };
        for (int i = 0; i < due.length; i++) {
            Checks.due("part " + i, x.facts(i), due[i]);
        }
        Checks.due("a left end", x.facts(x.end(6, 0)), "7 6 -1 -1 0 5 4");
        Checks.due("name 0", x.facts(x.name(0)), "2 -1 -1 -1 0 1 1");
        Checks.due("a wheel of name 0", x.facts(x.wheel(0, 0)), "3 0 -1 -1 0 2 2");
        Checks.due("a telling of name 0", x.facts(x.tell(0, 0, 0)), "5 0 0 -1 0 3 2");
    }

    private static void howDeepAPartIs() {
        Checks.sentence("6 how deep it is: 1, and as much as the deepest of the parts of which it is made");
        Recorded x = new Recorded();
        int one = x.plain(1);
        int two = x.wheel(0, one);
        int three = x.end(two, 0);
        Checks.due("a plain one", x.part(one, 6), 1);
        Checks.due("a wheel", x.part(two, 6), 2);
        Checks.due("an end", x.part(three, 6), 3);
        Checks.due("deep on the left", x.part(x.axle(three, one), 6), 4);
        Checks.due("deep on the right", x.part(x.axle(one, three), 6), 4);
        Checks.due("deep where it is turned", x.part(x.turn(three, one), 6), 4);
        Checks.due("deep where it turns", x.part(x.turn(one, three), 6), 4);
        Checks.due("deep where it is told", x.part(x.tell(0, three, one), 6), 4);
        Checks.due("deep inside", x.part(x.tell(0, one, three), 6), 4);
        Checks.due("deep where it chooses", x.part(x.either(three, two, one), 6), 4);
        Checks.due("deep in the second", x.part(x.either(one, three, two), 6), 4);
        Checks.due("deep in the third", x.part(x.either(two, one, three), 6), 4);
        Recorded y = new Recorded();
        y.plain(0);
        for (int i = 1; i < 40; i++) {
            y.end(i - 1, 0);
        }
        Checks.due("the deepest", y.facts(39), "7 38 -1 -1 0 40 40");
        Checks.faulty(y, "the deepest", 39, 2, 1);
    }

    // ---- type

    private static void factsOfTypes() {
        Checks.sentence("0 its fault, 0 without one, 1 the part at which it is, -1 without one");
        Recorded x = mixed();
        String[] due = {
            "0 -1 1 0 1", "0 -1 1 0 1", "1 2 0 0 0", "0 -1 3 1 2", "0 -1 1 0 1", "0 -1 1 0 1", "0 -1 5 1 3",
            "0 -1 3 1 2", "0 -1 1 0 1", "2 9 0 0 0", "1 2 0 0 0", "3 10 0 0 0",
        };
        for (int i = 0; i < due.length; i++) {
            Checks.due("type " + i, x.types(i), due[i]);
        }
        Checks.due("the place of a fault further inside", x.types(x.axle(0, x.end(9, 0))), "2 9 0 0 0");
        Checks.sentence("2 to 4 are 0 with a fault");
        Recorded y = new Recorded();
        int most = Shapes.weights(y, 59);
        int more = y.wheel(0, most);
        Checks.due("too long", y.types(more), "4 " + more + " 0 0 0");
    }

    private static void howDeepATypeIs() {
        Checks.sentence("4 how deep its type is: 1 for one of one code, otherwise 1 more than the deeper one");
        Recorded x = new Recorded();
        int weight = x.plain(0);
        int two = x.axle(weight, weight);
        int three = x.axle(two, weight);
        Checks.due("one code", x.type(weight, 4), 1);
        Checks.due("an axle of weights", x.type(two, 4), 2);
        Checks.due("deep on the left", x.type(three, 4), 3);
        Checks.due("deep on the right", x.type(x.axle(weight, two), 4), 3);
        Checks.due("deeper on the left", x.type(x.axle(three, two), 4), 4);
        Checks.due("deeper on the right", x.type(x.axle(two, three), 4), 4);
        Checks.due("both as deep", x.type(x.axle(three, three), 4), 4);
        Checks.due("a wheel to a deep one", x.type(x.wheel(0, three), 4), 4);
        int flag = x.plain(1);
        int from = Shapes.wheelOf(x, flag, three, weight);
        Checks.due("a wheel from a deep one", x.types(from), "0 -1 7 0 4");
        Recorded y = new Recorded();
        int left = y.plain(0);
        for (int i = 0; i < 29; i++) {
            left = y.axle(left, 0);
        }
        Checks.due("the deepest, on the left", y.types(left), "0 -1 59 0 30");
    }

    private static void differentVariables() {
        Checks.sentence("3 how many different variables are in it");
        Recorded x = new Recorded();
        int a = x.name(0);
        int b = x.name(1);
        Checks.due("none", x.type(x.plain(0), 3), 0);
        Checks.due("one, twice", x.type(x.wheel(0, a), 3), 1);
        Checks.due("one, three times", x.type(x.wheel(0, x.axle(a, a)), 3), 1);
        Checks.due("two", x.type(x.wheel(0, x.wheel(1, x.axle(b, a))), 3), 2);
        int same = x.wheel(0, a);
        Checks.due("of each its own", x.type(x.axle(same, same), 3), 2);
    }

    // ---- count

    private static void counts() {
        Checks.sentence("0 parts, 1 parts that have a type by themselves, 2 to 5 parts with the fault 1 to 4");
        Recorded x = mixed();
        int[] due = {12, 8, 2, 1, 1, 0};
        for (int what = 0; what < 6; what++) {
            Checks.due("count " + what, x.count(what), due[what]);
        }
        Recorded y = new Recorded();
        int deep = y.name(0);
        while (y.count(0) < 40) {
            deep = y.wheel(0, deep);
        }
        int[] long4 = {40, 29, 1, 0, 0, 10};
        for (int what = 0; what < 6; what++) {
            Checks.due("count of wheels " + what, y.count(what), long4[what]);
        }
        Recorded z = new Recorded();
        for (int i = 0; i < 40; i++) {
            z.name(i % 10);
        }
        int[] names = {40, 0, 40, 0, 0, 0};
        for (int what = 0; what < 6; what++) {
            Checks.due("count of names " + what, z.count(what), names[what]);
        }
    }

    // ---- same and fits

    private static void sames() {
        Checks.sentence("whether both have types, and these have the same row");
        Recorded x = new Recorded();
        int weight = x.plain(0);
        int flag = x.plain(1);
        int a = x.name(0);
        int bad = x.turn(weight, weight);
        Checks.due("itself", x.same(weight, weight), true);
        Checks.due("another one", x.same(weight, x.plain(0)), true);
        Checks.due("another kind", x.same(weight, flag), false);
        Checks.due("without types, itself", x.same(a, a), false);
        Checks.due("without types, as another one", x.same(a, x.name(0)), false);
        Checks.due("without the first", x.same(bad, weight), false);
        Checks.due("without the second", x.same(weight, bad), false);
        int same = x.wheel(0, a);
        Checks.due("with other names", x.same(same, x.wheel(5, x.name(5))), true);
        Checks.due("another last code", x.same(same, x.wheel(0, weight)), false);
        Checks.due("an axle for a wheel", x.same(x.wheel(0, weight), x.axle(weight, weight)), false);
        int left = x.axle(x.axle(weight, weight), weight);
        Checks.due("as long, in another order", x.same(left, x.axle(weight, x.axle(weight, weight))), false);
        Checks.due("longer", x.same(left, x.axle(weight, weight)), false);
        Recorded y = new Recorded();
        int most = Shapes.weights(y, 59);
        Checks.due("the longest", y.same(most, most), true);
        int more = y.wheel(0, most);
        Checks.due("too long", y.same(more, more), false);
    }

    private static void fitting() {
        Checks.sentence("that of the second one is that of the first one with some types in the place of its variables");
        Recorded x = new Recorded();
        int weight = x.plain(0);
        int flag = x.plain(1);
        int a = x.name(0);
        int same = x.wheel(0, a);
        int weights = x.wheel(0, x.either(flag, a, weight));
        int firstOf = x.wheel(0, x.wheel(1, a));
        int ofSame = x.wheel(0, x.wheel(1, x.either(flag, a, x.name(1))));
        Checks.due("no variables, the same", x.fits(weight, weight), true);
        Checks.due("no variables, another kind", x.fits(weight, flag), false);
        Checks.due("a variable's own row", x.fits(same, same), true);
        Checks.due("a weight for the variable", x.fits(same, weights), true);
        Checks.due("not the other way", x.fits(weights, same), false);
        Checks.due("one variable for two", x.fits(firstOf, ofSame), true);
        Checks.due("not two for one", x.fits(ofSame, firstOf), false);
        Checks.due("a whole wheel for a variable", x.fits(same, x.turn(same, same)), true);
        Checks.due("a longer row", x.fits(weight, same), false);
        Checks.due("a shorter row", x.fits(same, weight), false);
        int bad = x.turn(weight, weight);
        Checks.due("without types", x.fits(bad, bad), false);
        Checks.due("without the first", x.fits(bad, weight), false);
        Checks.due("without the second", x.fits(same, bad), false);
    }

    private static void fittingAtAllPlaces() {
        Checks.sentence("the same type at all places of a variable");
        Recorded x = new Recorded();
        int weight = x.plain(0);
        int flag = x.plain(1);
        int a = x.name(0);
        int b = x.name(1);
        int same = x.wheel(0, a);
        Checks.due("a variable and a weight", x.fits(same, x.wheel(0, weight)), false);
        Checks.due("a weight and a flag", x.fits(same, Shapes.wheelOf(x, flag, weight, flag)), false);
        Checks.due("a weight twice", x.fits(same, Shapes.wheelOf(x, flag, weight, weight)), true);
        int axle = x.axle(weight, flag);
        Checks.due("an axle and its left", x.fits(same, Shapes.wheelOf(x, flag, axle, weight)), false);
        Recorded y = new Recorded();
        weight = y.plain(0);
        flag = y.plain(1);
        a = y.name(0);
        same = y.wheel(0, a);
        axle = y.axle(weight, flag);
        Checks.due("an axle twice", y.fits(same, Shapes.wheelOf(y, flag, axle, axle)), true);
        int other = y.axle(weight, weight);
        Checks.due("an axle and another one", y.fits(same, Shapes.wheelOf(y, flag, axle, other)), false);
        Checks.due("an axle and a longer one",
            y.fits(same, Shapes.wheelOf(y, flag, axle, y.axle(weight, axle))), false);
        int firstOf = y.wheel(0, y.wheel(1, a));
        int secondOf = y.wheel(0, y.wheel(1, y.name(1)));
        Checks.due("two variables in another order", y.fits(firstOf, secondOf), false);
        Checks.due("and the other way", y.fits(secondOf, firstOf), false);
    }

    // ---- goes and first

    private static void goings() {
        Checks.sentence("the fault that turn(a, b) would have; 0 without one");
        Recorded x = new Recorded();
        int weight = x.plain(0);
        int flag = x.plain(1);
        int a = x.name(0);
        int same = x.wheel(0, a);
        int bad = x.turn(weight, weight);
        int flags = x.wheel(0, x.either(a, a, a));
        int self = x.turn(a, a);
        int within = x.wheel(0, self);
        int ofWheel = x.wheel(0, x.wheel(1, x.turn(a, x.turn(a, x.name(1)))));
        int doubler = x.wheel(0, x.axle(a, a));
        int[] parts = {weight, flag, a, same, bad, flags, within, ofWheel, doubler};
        int[][] due = {
            {2, 2, 1, 2, 2, 2, 3, 2, 2}, {2, 2, 1, 2, 2, 2, 3, 2, 2}, {1, 1, 1, 1, 1, 1, 1, 1, 1},
            {0, 0, 1, 0, 2, 0, 3, 0, 0}, {2, 2, 2, 2, 2, 2, 2, 2, 2}, {2, 0, 1, 2, 2, 2, 3, 2, 2},
            {3, 3, 3, 3, 3, 3, 3, 3, 3}, {2, 2, 1, 0, 2, 0, 3, 0, 3}, {0, 0, 1, 0, 2, 0, 3, 0, 0},
        };
        for (int i = 0; i < parts.length; i++) {
            for (int j = 0; j < parts.length; j++) {
                int one = parts[i];
                int two = parts[j];
                Checks.due("goes " + one + " " + two, x.goes(one, two), due[i][j]);
                int turning = x.turn(one, two);
                Checks.due("turn " + one + " " + two, x.type(turning, 0), due[i][j]);
                x.undo();
            }
        }
        int[] first = {-1, -1, -1, weight, -1, flag, -1, same, weight};
        Checks.sentence("the part with the smallest number that could turn it; -1 if there is none");
        for (int i = 0; i < parts.length; i++) {
            Checks.due("first " + parts[i], x.first(parts[i]), first[i]);
        }
    }

    private static void goesTooLong() {
        Checks.sentence("the fault that turn(a, b) would have: 4");
        Recorded x = new Recorded();
        int a = x.name(0);
        int doubler = x.wheel(0, x.axle(a, a));
        int thirtyOne = Shapes.weights(x, 31);
        int twentyNine = Shapes.weights(x, 29);
        Checks.due("59 codes", x.goes(doubler, twentyNine), 0);
        Checks.due("63 codes", x.goes(doubler, thirtyOne), 4);
        int most = Shapes.weights(x, 59);
        int more = x.wheel(0, most);
        Checks.due("the first one has 4", x.goes(more, a), 4);
        Checks.due("the second one has 4", x.goes(doubler, more), 4);
        Checks.due("1 of the first one ahead of 4", x.goes(a, more), 1);
        Checks.due("119 codes", x.goes(doubler, most), 4);
        Checks.due("what turns is dropped", x.goes(x.wheel(0, x.plain(0)), most), 0);
    }

    /** A part of size 58 whose type is weight. */
    private static int weightOf58(Recorded x) {
        int weight = x.plain(0);
        int part = weight;
        for (int i = 0; i < 4; i++) {
            part = x.end(x.axle(part, part), 0);
        }
        for (int i = 0; i < 4; i++) {
            part = x.end(x.axle(weight, part), 1);
        }
        return part;
    }

    private static void goesWithForty() {
        Checks.sentence("also with 40 parts, or if it was greater than 60; nothing is changed");
        Recorded x = new Recorded();
        int fiftyEight = weightOf58(x);
        int sixty = x.wheel(0, x.wheel(1, fiftyEight));
        Checks.due("size", x.part(sixty, 5), 60);
        Checks.due("greater than 60", x.goes(sixty, sixty), 0);
        Checks.due("its first part", x.first(sixty), 0);
        Checks.refused(x, "the turning itself", () -> x.turn(sixty, sixty), Checks.STATE);
        Checks.due("greater than 60, a fault", x.goes(fiftyEight, sixty), 2);
        while (x.count(0) < 40) {
            x.name(3);
        }
        List<String> before = x.everything();
        Checks.due("with 40 and greater than 60", x.goes(sixty, sixty), 0);
        Checks.due("with 40, a fault", x.goes(fiftyEight, sixty), 2);
        Checks.due("with 40, no type", x.goes(39, sixty), 1);
        Checks.due("with 40, the last part", x.goes(sixty, 39), 1);
        Checks.due("with 40, the first", x.first(sixty), 0);
        Checks.refused(x, "the turning itself, with 40", () -> x.turn(sixty, sixty), Checks.STATE);
        Checks.due("all answers behind it", x.everything(), before);
        Recorded y = mixed();
        long digest = y.digest();
        y.goes(3, 0);
        y.goes(0, 0);
        y.first(3);
        Checks.due("digest behind goes and first", y.digest(), digest);
        Checks.due("the next part behind goes and first", y.plain(0), 12);
    }

    private static void firsts() {
        Checks.sentence("the part with the smallest number that could turn it (without a fault by goes())");
        Recorded x = new Recorded();
        int a = x.name(0);
        int needsFlag = x.wheel(0, x.either(a, a, a));
        Checks.due("none yet", x.first(needsFlag), -1);
        while (x.count(0) < 39) {
            x.plain(0);
        }
        Checks.due("none of weights", x.first(needsFlag), -1);
        int last = x.plain(1);
        Checks.due("the 40th alone", x.first(needsFlag), last);
        Checks.due("a part that has a fault", x.first(a), -1);
        Recorded y = new Recorded();
        int same = y.wheel(0, y.name(0));
        Checks.due("itself, behind a name that has a fault", y.first(same), same);
        Recorded z = new Recorded();
        z.plain(1);
        z.plain(1);
        Checks.due("the first of two", z.first(z.wheel(0, z.name(0))), 0);
        Checks.due("a part that is no wheel", z.first(0), -1);
        Recorded gone = new Recorded();
        int needs = gone.wheel(0, gone.end(gone.name(0), 0));
        int axle = gone.axle(gone.plain(0), needs);
        Checks.due("an axle", gone.first(needs), axle);
        gone.undo();
        Checks.due("an axle that is broken off", gone.first(needs), -1);
    }

    // ---- longest, mean and digest

    private static void longests() {
        Checks.sentence("of several the one with the smallest number; -1 if no part has a type");
        Recorded x = new Recorded();
        Checks.due("no part", x.longest(), -1);
        int n = x.name(0);
        Checks.due("no part with a type", x.longest(), -1);
        int weight = x.plain(0);
        Checks.due("the only one", x.longest(), weight);
        x.plain(1);
        Checks.due("two of one code", x.longest(), weight);
        int wheel = x.wheel(0, n);
        Checks.due("a longer one", x.longest(), wheel);
        x.axle(weight, weight);
        Checks.due("two of three codes", x.longest(), wheel);
        int most = Shapes.weights(x, 59);
        Checks.due("the last one", x.longest(), most);
        x.wheel(1, most);
        Checks.due("behind it one that is too long", x.longest(), most);
        Recorded y = new Recorded();
        y.plain(1);
        Checks.due("part 0 alone", y.longest(), 0);
        y.plain(0);
        Checks.due("part 0 of two", y.longest(), 0);
        y.axle(0, 1);
        Checks.due("part 2", y.longest(), 2);
        y.undo();
        Checks.due("part 0 again", y.longest(), 0);
    }

    private static void means() {
        Checks.sentence("the mean of how many codes types have, of all parts that have one; 0 without any");
        Recorded x = new Recorded();
        Checks.due("no part", x.mean(), 0.0);
        int n = x.name(0);
        Checks.due("no part with a type", x.mean(), 0.0);
        x.plain(0);
        Checks.due("one of one", x.mean(), 1.0);
        x.wheel(0, n);
        Checks.due("1 and 3", x.mean(), 2.0);
        x.plain(1);
        Checks.due("1, 3 and 1", x.mean(), 5.0 / 3.0);
        x.turn(1, 1);
        Checks.due("and one with a fault", x.mean(), 5.0 / 3.0);
        Recorded y = new Recorded();
        y.plain(0);
        int part = y.axle(0, 0);
        for (int i = 0; i < 28; i++) {
            part = y.axle(part, 0);
        }
        Checks.due("1, 3, 5 to 59", y.mean(), 30.0);
        while (y.count(0) < 40) {
            y.axle(part - 1, 0);
        }
        Checks.due("40 parts", y.mean(), (900.0 + 10.0 * 59.0) / 40.0);
    }

    /** The digest as the document says it, without a bound, then as a 64-bit integer. */
    private static long digestOf(Recorded x) {
        List<Integer> numbers = new ArrayList<>();
        for (int what = 0; what < 6; what++) {
            numbers.add(x.count(what));
        }
        for (int part = 0; part < x.count(0); part++) {
            for (int what = 0; what < 7; what++) {
                numbers.add(x.part(part, what));
            }
            for (int what = 0; what < 5; what++) {
                numbers.add(x.type(part, what));
            }
            for (int place = 0; place < x.type(part, 2); place++) {
                numbers.add(x.code(part, place));
            }
        }
        BigInteger d = BigInteger.valueOf(1597);
        for (int number : numbers) {
            d = d.multiply(BigInteger.valueOf(31)).add(BigInteger.valueOf(number));
        }
        return d.longValue();
    }

    private static void digests() {
        Checks.sentence("A number d starts with 1597; .. which wraps around as a 64-bit integer");
        Recorded none = new Recorded();
        Checks.due("of no parts", none.digest(), 1417343378557L);
        Recorded one = new Recorded();
        one.plain(0);
        Checks.due("of a weight", one.digest(), -8211530170475471008L);
        Recorded name = new Recorded();
        name.name(9);
        Checks.due("of a name without a type", name.digest(), 4788345940908705808L);
        boolean below = false;
        boolean above = false;
        Recorded x = mixed();
        Shapes.weights(x, 59);
        while (x.count(0) > 0) {
            long due = digestOf(x);
            below = below || due < 0;
            above = above || due > 0;
            Checks.due("of " + x.count(0) + " parts", x.digest(), due);
            x.undo();
        }
        Checks.due("one was below 0", below, true);
        Checks.due("one was above 0", above, true);
        Checks.due("of no parts again", x.digest(), none.digest());
        Recorded full = new Recorded();
        int part = full.plain(1);
        while (full.count(0) < 40) {
            part = full.count(0) < 30 ? full.axle(0, part) : full.name(full.count(0) % 10);
        }
        Checks.due("of 40 parts", full.digest(), digestOf(full));
    }

    public static void main(String[] args) {
        noSuchPart();
        lastPart();
        firstPart();
        noSuchThing();
        factsOfEachSort();
        howDeepAPartIs();
        factsOfTypes();
        howDeepATypeIs();
        differentVariables();
        counts();
        sames();
        fitting();
        fittingAtAllPlaces();
        goings();
        goesTooLong();
        goesWithForty();
        firsts();
        longests();
        means();
        digests();
        Checks.end();
    }
}
