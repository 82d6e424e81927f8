/** Each promise of the document by hand: ordinary calls, the edges that it names, and wrong ones. */
public final class PromisesTest {
    private static final String INDEX = Checks.INDEX;
    private static final String ARGUMENT = Checks.ARGUMENT;
    private static final String STATE = Checks.STATE;

    private static void due(int promise, String call, Object got, Object want) {
        Checks.due("promise " + promise + ": " + call, got, want);
    }

    private static void refused(int promise, Recorded x, String call, Recorded.Call refusedCall, String want) {
        Checks.refused(x, "promise " + promise + ": " + call, refusedCall, want);
    }

    private static String row(Recorded x, int part) {
        return x.row(part);
    }

    private static String facts(Recorded x, int part) {
        return x.facts(part);
    }

    private static String types(Recorded x, int part) {
        return x.types(part);
    }

    private static void typed(Recorded x, String what, int part, String want) {
        Checks.typed(x, what, part, want);
    }

    private static void faulty(Recorded x, String what, int part, int fault, int at) {
        Checks.faulty(x, what, part, fault, at);
    }

    private static Recorded full() {
        Recorded x = new Recorded();
        for (int i = 0; i < 40; i++) {
            x.plain(i % 2);
        }
        return x;
    }

    // ---- making

    private static void newObject() {
        Recorded x = new Recorded();
        for (int i = 0; i < 6; i++) {
            due(1, "count " + i, x.count(i), 0);
        }
        due(1, "longest", x.longest(), -1);
        due(1, "mean", x.mean(), 0.0);
        due(1, "digest", x.digest(), 1597L * 31 * 31 * 31 * 31 * 31 * 31);
        refused(1, x, "undo", x::undo, STATE);
        refused(1, x, "part", () -> x.part(0, 0), INDEX);
    }

    private static void plainOnes() {
        Recorded x = new Recorded();
        due(2, "plain 0", x.plain(0), 0);
        due(2, "plain 1", x.plain(1), 1);
        due(2, "facts of a weight", facts(x, 0), "0 -1 -1 -1 -1 1 1");
        due(2, "facts of a flag", facts(x, 1), "1 -1 -1 -1 -1 1 1");
        typed(x, "a weight", 0, "0");
        typed(x, "a flag", 1, "1");
        refused(2, x, "plain 2", () -> x.plain(2), ARGUMENT);
        refused(2, x, "plain -1", () -> x.plain(-1), ARGUMENT);
        refused(2, x, "plain least", () -> x.plain(Integer.MIN_VALUE), ARGUMENT);
        Recorded y = full();
        refused(2, y, "a 41st", () -> y.plain(0), STATE);
        refused(2, y, "a wrong 41st", () -> y.plain(2), ARGUMENT);
    }

    private static void names() {
        Recorded x = new Recorded();
        due(3, "name 0", x.name(0), 0);
        due(3, "name 9", x.name(9), 1);
        due(3, "facts", facts(x, 1), "2 -1 -1 -1 9 1 1");
        faulty(x, "a name by itself", 1, 1, 1);
        refused(3, x, "name 10", () -> x.name(10), ARGUMENT);
        refused(3, x, "name -1", () -> x.name(-1), ARGUMENT);
        Recorded y = full();
        refused(3, y, "a 41st", () -> y.name(0), STATE);
        refused(3, y, "a wrong 41st", () -> y.name(10), ARGUMENT);
    }

    private static void wheels() {
        Recorded x = new Recorded();
        int n = x.name(7);
        due(4, "wheel", x.wheel(7, n), 1);
        due(4, "facts", facts(x, 1), "3 0 -1 -1 7 2 2");
        due(4, "wheel of another name", x.wheel(6, n), 2);
        faulty(x, "name in a wheel of another name", 2, 1, 0);
        typed(x, "wheel", 1, "2 10 10");
        int inner = x.wheel(7, 1);
        typed(x, "the latest wheel of the name", inner, "2 10 2 11 11");
        refused(4, x, "no part", () -> x.wheel(7, 4), INDEX);
        refused(4, x, "no part", () -> x.wheel(7, -1), INDEX);
        refused(4, x, "no part and no name", () -> x.wheel(10, 4), INDEX);
        refused(4, x, "no name", () -> x.wheel(10, 0), ARGUMENT);
        refused(4, x, "no name", () -> x.wheel(-1, 0), ARGUMENT);
        Recorded y = full();
        refused(4, y, "a 41st", () -> y.wheel(0, 0), STATE);
        refused(4, y, "a 41st of no name", () -> y.wheel(10, 0), ARGUMENT);
        refused(4, y, "a 41st of no part", () -> y.wheel(0, 40), INDEX);
    }

    private static void turnings() {
        Recorded x = new Recorded();
        int weight = x.plain(0);
        int n = x.name(0);
        int same = x.wheel(0, n);
        due(5, "turn", x.turn(same, weight), 3);
        due(5, "facts", facts(x, 3), "4 2 0 -1 -1 4 3");
        typed(x, "turning", 3, "0");
        faulty(x, "a weight cannot be turned", x.turn(weight, weight), 2, 4);
        refused(5, x, "no wheel", () -> x.turn(5, 0), INDEX);
        refused(5, x, "no turning", () -> x.turn(0, -1), INDEX);
        Recorded y = full();
        refused(5, y, "a 41st", () -> y.turn(0, 0), STATE);
        refused(5, y, "a 41st of no part", () -> y.turn(0, 40), INDEX);
    }

    private static void tellings() {
        Recorded x = new Recorded();
        int weight = x.plain(0);
        int n = x.name(3);
        due(6, "tell", x.tell(3, weight, n), 2);
        due(6, "facts", facts(x, 2), "5 0 1 -1 3 3 2");
        typed(x, "telling", 2, "0");
        faulty(x, "its name has not this type in what is told", x.tell(3, n, weight), 1, n);
        refused(6, x, "no told", () -> x.tell(10, 4, 0), INDEX);
        refused(6, x, "no inside", () -> x.tell(0, 0, 4), INDEX);
        refused(6, x, "no inside", () -> x.tell(-1, 0, -1), INDEX);
        refused(6, x, "no name", () -> x.tell(10, 0, 0), ARGUMENT);
        refused(6, x, "no name", () -> x.tell(-1, 0, 0), ARGUMENT);
        Recorded y = full();
        refused(6, y, "a 41st", () -> y.tell(0, 0, 0), STATE);
        refused(6, y, "a 41st of no name", () -> y.tell(10, 0, 0), ARGUMENT);
    }

    private static void axles() {
        Recorded x = new Recorded();
        int weight = x.plain(0);
        int flag = x.plain(1);
        due(7, "axle", x.axle(weight, flag), 2);
        due(7, "facts", facts(x, 2), "6 0 1 -1 -1 3 2");
        typed(x, "axle", 2, "3 0 1");
        refused(7, x, "no left", () -> x.axle(3, 0), INDEX);
        refused(7, x, "no right", () -> x.axle(0, 3), INDEX);
        Recorded y = full();
        refused(7, y, "a 41st", () -> y.axle(0, 0), STATE);
        refused(7, y, "a 41st of no part", () -> y.axle(40, 0), INDEX);
    }

    private static void ends() {
        Recorded x = new Recorded();
        int weight = x.plain(0);
        int flag = x.plain(1);
        int axle = x.axle(weight, flag);
        due(8, "left end", x.end(axle, 0), 3);
        due(8, "right end", x.end(axle, 1), 4);
        due(8, "facts of a left end", facts(x, 3), "7 2 -1 -1 0 4 3");
        due(8, "facts of a right end", facts(x, 4), "7 2 -1 -1 1 4 3");
        typed(x, "left end", 3, "0");
        typed(x, "right end", 4, "1");
        faulty(x, "end of a weight", x.end(weight, 0), 2, 5);
        int n = x.name(0);
        typed(x, "left end of what turns", x.wheel(0, x.end(n, 0)), "2 3 10 11 10");
        typed(x, "right end of what turns", x.wheel(0, x.end(n, 1)), "2 3 10 11 11");
        refused(8, x, "no part", () -> x.end(20, 2), INDEX);
        refused(8, x, "no side", () -> x.end(0, 2), ARGUMENT);
        refused(8, x, "no side", () -> x.end(0, -1), ARGUMENT);
        Recorded y = full();
        refused(8, y, "a 41st", () -> y.end(0, 0), STATE);
        refused(8, y, "a 41st of no side", () -> y.end(0, 2), ARGUMENT);
    }

    private static void choices() {
        Recorded x = new Recorded();
        int weight = x.plain(0);
        int flag = x.plain(1);
        int n = x.name(0);
        due(9, "either", x.either(flag, weight, weight), 3);
        due(9, "facts", facts(x, 3), "8 1 0 0 -1 4 2");
        typed(x, "choice", 3, "0");
        faulty(x, "two kinds", x.either(flag, weight, flag), 2, 4);
        faulty(x, "a weight chooses, ahead of the others' faults", x.either(weight, n, n), 2, 5);
        faulty(x, "the second part ahead of the third", x.either(flag, n, x.turn(weight, weight)), 1, n);
        typed(x, "what turns chooses", x.wheel(0, x.either(n, n, n)), "2 1 1");
        refused(9, x, "no first", () -> x.either(10, 0, 0), INDEX);
        refused(9, x, "no second", () -> x.either(0, 10, 0), INDEX);
        refused(9, x, "no third", () -> x.either(0, 0, 10), INDEX);
        Recorded y = full();
        refused(9, y, "a 41st", () -> y.either(0, 0, 0), STATE);
        refused(9, y, "a 41st of no part", () -> y.either(0, 0, 40), INDEX);
    }

    private static void greatest() {
        Recorded x = new Recorded();
        int flag = x.plain(1);
        int three = x.axle(flag, flag);
        int seven = x.axle(three, three);
        int fifteen = x.axle(seven, seven);
        int thirtyOne = x.axle(fifteen, fifteen);
        int eleven = x.axle(seven, three);
        int twentySeven = x.axle(fifteen, eleven);
        int twentyEight = x.wheel(0, twentySeven);
        int sixty = x.axle(thirtyOne, twentyEight);
        due(11, "size of the greatest", x.part(sixty, 5), 60);
        due(11, "how deep it is", x.part(sixty, 6), 7);
        refused(4, x, "wheel of 61", () -> x.wheel(0, sixty), STATE);
        refused(8, x, "end of 61", () -> x.end(sixty, 0), STATE);
        int twentyNine = x.wheel(0, twentyEight);
        refused(5, x, "turning of 61", () -> x.turn(thirtyOne, twentyNine), STATE);
        refused(6, x, "telling of 61", () -> x.tell(0, thirtyOne, twentyNine), STATE);
        refused(6, x, "telling of 61 of no name", () -> x.tell(10, thirtyOne, twentyNine), ARGUMENT);
        refused(7, x, "axle of 61", () -> x.axle(thirtyOne, twentyNine), STATE);
        refused(9, x, "choice of 61", () -> x.either(flag, twentyEight, thirtyOne), STATE);
        due(5, "turning of 60", x.part(x.turn(thirtyOne, twentyEight), 5), 60);
        due(6, "telling of 60", x.part(x.tell(0, thirtyOne, twentyEight), 5), 60);
        due(9, "choice of 60", x.part(x.either(flag, twentySeven, thirtyOne), 5), 60);
    }

    private static void undoing() {
        Recorded x = new Recorded();
        x.plain(0);
        long before = x.digest();
        x.name(0);
        due(10, "undo", x.undo(), 1);
        due(10, "it is as before", x.digest(), before);
        refused(10, x, "its number is free", () -> x.part(1, 0), INDEX);
        due(10, "its number is given again", x.plain(1), 1);
        typed(x, "the new one has its own type", 1, "1");
        due(10, "undo", x.undo(), 1);
        due(10, "undo", x.undo(), 0);
        refused(10, x, "undo of none", x::undo, STATE);
        undoneParts();
        Recorded y = full();
        due(10, "undo of the 40th", y.undo(), 39);
        due(10, "there is room again", y.plain(0), 39);
    }

    /** What was broken off is no part any more, whatever was known of its type. */
    private static void undoneParts() {
        Recorded x = new Recorded();
        int n = x.name(0);
        int left = x.wheel(0, x.end(n, 0));
        int weight = x.plain(0);
        int axle = x.axle(weight, weight);
        due(18, "an axle turns it", x.first(left), axle);
        x.undo();
        due(18, "the axle is gone", x.first(left), -1);
        due(19, "the longest", x.longest(), left);
        due(20, "mean", x.mean(), 3.0);
        refused(13, x, "code of what is gone", () -> x.code(axle, 0), INDEX);
        refused(12, x, "type of what is gone", () -> x.type(axle, 0), INDEX);
        refused(11, x, "part of what is gone", () -> x.part(axle, 0), INDEX);
        refused(15, x, "same as what is gone", () -> x.same(axle, 0), INDEX);
        refused(16, x, "fits what is gone", () -> x.fits(0, axle), INDEX);
        refused(17, x, "goes with what is gone", () -> x.goes(0, axle), INDEX);
        refused(18, x, "first of what is gone", () -> x.first(axle), INDEX);
        refused(7, x, "axle of what is gone", () -> x.axle(axle, 0), INDEX);
    }

    // ---- the type of a part

    private static void ownVariables() {
        Recorded x = new Recorded();
        int weight = x.plain(0);
        int flag = x.plain(1);
        int a = x.name(0);
        int b = x.name(1);
        int same = x.wheel(0, a);
        int both = x.axle(x.turn(b, weight), x.turn(b, flag));
        typed(x, "each use has new variables", x.tell(1, same, both), "3 0 1");
        faulty(x, "a wheel's name has one type", x.wheel(1, both), 2, both - 1);
        int toldA = x.tell(1, a, both);
        faulty(x, "a variable of a wheel around is not the telling's own", x.wheel(0, toldA), 2, both - 1);
        // the inner wheel's variable gets into the type of name 0 while the part is told
        int c = x.name(2);
        int bound = x.end(x.axle(c, x.either(flag, a, x.axle(c, c))), 0);
        int gets = x.wheel(2, bound);
        int toldBound = x.tell(1, gets, both);
        faulty(x, "a type around counts as it is then", x.wheel(0, toldBound), 2, both - 1);
        typed(x, "with one use it goes", x.wheel(0, x.tell(1, gets, x.turn(b, weight))), "2 3 0 0 0");
        int hidden = x.wheel(0, x.wheel(0, x.tell(1, a, both)));
        faulty(x, "hidden or not", hidden, 2, both - 1);
    }

    private static void tellingsInTellings() {
        Recorded x = new Recorded();
        int weight = x.plain(0);
        int flag = x.plain(1);
        int a = x.name(0);
        int b = x.name(1);
        int c = x.name(2);
        int same = x.wheel(0, a);
        int both = x.axle(x.turn(c, weight), x.turn(c, flag));
        typed(x, "own ones of a telling around", x.tell(1, same, x.tell(2, b, both)), "3 0 1");
        int pair = x.wheel(1, x.axle(a, b));
        int some = x.tell(2, pair, both);
        typed(x, "some are its own, some are not", x.wheel(0, some), "2 10 3 3 10 0 3 10 1");
        typed(x, "the latest of the name", x.tell(2, weight, x.tell(2, flag, c)), "1");
        typed(x, "what is told sees the earlier", x.wheel(0, x.tell(0, x.axle(a, a), a)), "2 10 3 10 10");
        typed(x, "behind a telling the name is as before",
            x.wheel(2, x.axle(x.tell(2, weight, c), c)), "2 10 3 0 10");
        faulty(x, "behind a wheel its name has no type", x.axle(same, a), 1, a);
    }

    private static void faultOrder() {
        Recorded x = new Recorded();
        int weight = x.plain(0);
        int flag = x.plain(1);
        int a = x.name(0);
        int b = x.name(1);
        faulty(x, "of two names the left one", x.axle(b, a), 1, b);
        int bad = x.turn(weight, flag);
        faulty(x, "the turned one ahead of what turns", x.turn(bad, a), 2, bad);
        faulty(x, "what turns ahead of the turning", x.turn(weight, a), 1, a);
        faulty(x, "what is told ahead of the inside", x.tell(1, bad, a), 2, bad);
        faulty(x, "a part that is told once and not used", x.tell(1, a, weight), 1, a);
        int self = x.turn(a, a);
        faulty(x, "a variable within its own type", x.wheel(0, self), 3, self);
        int twice = x.axle(a, a);
        int leftFirst = x.either(flag, x.axle(a, weight), x.axle(twice, flag));
        faulty(x, "left ahead of right", x.wheel(0, leftFirst), 3, leftFirst);
        int kindFirst = x.either(flag, x.axle(weight, a), x.axle(flag, twice));
        faulty(x, "left ahead of right, the other way", x.wheel(0, kindFirst), 2, kindFirst);
        int meanwhile = x.either(flag, twice, x.axle(weight, flag));
        faulty(x, "what was given meanwhile", x.wheel(0, meanwhile), 2, meanwhile);
        typed(x, "a variable is the same as itself", x.wheel(0, x.either(flag, a, a)), "2 10 10");
        typed(x, "also by another one",
            x.wheel(0, x.wheel(1, x.either(flag, x.axle(a, b), x.axle(b, a)))), "2 10 2 10 3 10 10");
    }

    private static void roundAbout() {
        Recorded x = new Recorded();
        int flag = x.plain(1);
        int a = x.name(0);
        int b = x.name(1);
        int round = x.either(flag, x.axle(a, b), x.axle(x.axle(b, b), x.axle(a, a)));
        faulty(x, "within its own type by another one", x.wheel(0, x.wheel(1, round)), 3, round);
        int from = x.turn(a, x.plain(0));
        int wheels = x.either(flag, x.axle(from, from), x.axle(flag, x.plain(0)));
        faulty(x, "from and to", x.wheel(0, wheels), 2, wheels);
    }

    /** Rows have an odd number of codes, so 59 is the most and 61 is the least too long. */
    private static void longRows() {
        Recorded x = new Recorded();
        int weight = x.plain(0);
        int n = x.name(0);
        int pair = x.axle(n, n);
        int doubler = x.wheel(0, pair);
        int three = x.turn(doubler, weight);
        int seven = x.turn(doubler, three);
        int fifteen = x.turn(doubler, seven);
        int thirtyOne = x.turn(doubler, fifteen);
        int eleven = x.axle(seven, three);
        int twentySeven = x.axle(fifteen, eleven);
        int fiftyNine = x.axle(thirtyOne, twentySeven);
        due(12, "59 codes", types(x, fiftyNine), "0 -1 59 0 6");
        due(13, "the last of 59", x.code(fiftyNine, 58), 0);
        refused(13, x, "the 60th of 59", () -> x.code(fiftyNine, 59), INDEX);
        int sixtyOne = x.wheel(0, fiftyNine);
        faulty(x, "61 codes", sixtyOne, 4, sixtyOne);
        int sixtyThree = x.turn(doubler, thirtyOne);
        faulty(x, "63 codes", sixtyThree, 4, sixtyThree);
        faulty(x, "the part that is too long, not that around it", x.end(sixtyThree, 0), 4, sixtyThree);
        due(17, "goes of 63 codes", x.goes(doubler, thirtyOne), 4);
        due(17, "goes of 31 codes", x.goes(doubler, fifteen), 0);
        due(14, "parts with the fault 4", x.count(5), 3);
        refused(13, x, "no code with a fault", () -> x.code(sixtyThree, 0), INDEX);
    }

    private static void deepest() {
        Recorded x = new Recorded();
        x.name(0);
        for (int i = 1; i < 40; i++) {
            x.wheel((i - 1) % 10, i - 1);
        }
        due(11, "the deepest", facts(x, 39), "3 38 -1 -1 8 40 40");
        due(12, "29 wheels in one another", types(x, 29), "0 -1 59 29 30");
        due(13, "the last variable is that of the first wheel", x.code(29, 58), 38);
        faulty(x, "30 wheels in one another", 30, 4, 30);
        faulty(x, "39 wheels in one another", 39, 4, 30);
        due(19, "longest", x.longest(), 29);
        due(14, "too long", x.count(5), 10);
    }

    /** What name 0 stands for gets too long behind the name, which is asked again only where it is used. */
    private static void longerLater() {
        Recorded x = new Recorded();
        int weight = x.plain(0);
        int a = x.name(0);
        int b = x.name(1);
        int doubler = x.wheel(0, x.axle(a, a));
        int seven = x.turn(doubler, x.turn(doubler, b));
        int made = x.turn(doubler, x.turn(doubler, seven));
        due(12, "31 codes by themselves", x.type(x.wheel(1, made), 2), 33);
        int more = x.either(x.plain(1), b, x.axle(weight, weight));
        int inside = x.end(x.axle(weight, x.axle(made, more)), 0);
        // the type of `made` has 31 codes when it is found, 63 codes when `more` has been found
        int last = x.wheel(1, inside);
        int around = inside - 1;
        faulty(x, "the axle around it is too long", last, 4, around - 1);
        typed(x, "a told part is not asked again", x.wheel(1, x.tell(5, made, more)), "2 3 0 0 3 0 0");
    }

    /** The variables stand within one another, so written out the types would have thousands of codes. */
    private static void sharedTypes() {
        Recorded x = new Recorded();
        int[] n = new int[10];
        for (int i = 0; i < 10; i++) {
            n[i] = x.name(i);
        }
        int twice = x.axle(n[0], n[0]);
        int once = x.wheel(0, twice);
        int four = x.turn(n[1], x.turn(n[1], n[0]));
        int quarter = x.wheel(0, four);
        int left = x.axle(n[3], x.axle(n[4], x.axle(n[5], n[6])));
        int right = x.turn(n[2], n[7]);
        int[] next = {x.turn(n[2], n[4]), x.turn(n[2], n[5]), x.turn(n[2], n[6]), right};
        int all = x.axle(next[0], x.axle(next[1], x.axle(next[2], next[3])));
        int first = x.turn(n[8], left);
        int second = x.turn(n[8], all);
        int inside = x.axle(x.axle(first, second), first);
        due(11, "size", x.part(inside, 5) < 50, true);
        int part = inside;
        for (int i = 8; i >= 3; i--) {
            part = x.wheel(i, part);
        }
        int told = x.tell(1, once, x.tell(2, quarter, part));
        faulty(x, "the name whose type is too long at its third use", told, 4, n[8]);
    }

    // ---- parts and types

    private static void telling() {
        Recorded x = new Recorded();
        int a = x.name(4);
        int w = x.wheel(4, x.axle(a, a));
        due(11, "its part", x.part(w, 1), 1);
        due(12, "all of a type", types(x, w), "0 -1 5 1 3");
        due(12, "all of a fault", types(x, 1), "1 0 0 0 0");
        due(13, "row", row(x, w), "2 10 3 10 10");
        int k = x.wheel(1, x.wheel(4, x.axle(x.axle(a, x.name(1)), a)));
        due(12, "two variables", types(x, k), "0 -1 9 2 5");
        due(13, "variables in the order in which they come", row(x, k), "2 10 2 11 3 3 11 10 11");
        refused(11, x, "no part", () -> x.part(k + 1, 0), INDEX);
        refused(11, x, "no part", () -> x.part(-1, 0), INDEX);
        refused(11, x, "no such thing", () -> x.part(0, 7), INDEX);
        refused(11, x, "no such thing", () -> x.part(0, -1), INDEX);
        refused(12, x, "no part", () -> x.type(k + 1, 0), INDEX);
        refused(12, x, "no part", () -> x.type(-1, 0), INDEX);
        refused(12, x, "no such thing", () -> x.type(0, 5), INDEX);
        refused(12, x, "no such thing", () -> x.type(0, -1), INDEX);
        refused(13, x, "no part", () -> x.code(k + 1, 0), INDEX);
        refused(13, x, "no place", () -> x.code(w, 5), INDEX);
        refused(13, x, "no place", () -> x.code(w, -1), INDEX);
        refused(13, x, "none with a fault", () -> x.code(a, 0), INDEX);
    }

    private static void counting() {
        Recorded x = new Recorded();
        int weight = x.plain(0);
        int n = x.name(0);
        x.turn(weight, weight);
        x.end(weight, 0);
        x.wheel(0, x.turn(n, n));
        x.name(1);
        int[] want = {7, 1, 3, 2, 1, 0};
        for (int i = 0; i < 6; i++) {
            due(14, "count " + i, x.count(i), want[i]);
        }
        refused(14, x, "count 6", () -> x.count(6), INDEX);
        refused(14, x, "count -1", () -> x.count(-1), INDEX);
    }

    // ---- comparing

    private static void comparing() {
        Recorded x = new Recorded();
        int weight = x.plain(0);
        int flag = x.plain(1);
        int a = x.name(0);
        int b = x.name(1);
        int same = x.wheel(0, a);
        int same1 = x.wheel(1, b);
        int constant = x.wheel(0, x.wheel(1, a));
        int toWeight = x.wheel(0, weight);
        int weights = x.wheel(0, x.end(x.axle(a, x.either(flag, a, weight)), 0));
        due(15, "two with the same row", x.same(same, same1), true);
        due(15, "with itself", x.same(same, same), true);
        due(15, "as long, of other codes", x.same(same, toWeight), false);
        due(15, "shorter", x.same(weight, same), false);
        due(15, "two without a type", x.same(a, a), false);
        due(15, "one without a type", x.same(weight, a), false);
        due(16, "itself", x.fits(same, same), true);
        due(16, "a case", x.fits(same, weights), true);
        due(16, "not the other way", x.fits(weights, same), false);
        due(16, "not the same at both places", x.fits(same, toWeight), false);
        due(16, "a variable at one place only", x.fits(toWeight, weights), true);
        due(16, "a longer type for a variable", x.fits(toWeight, x.wheel(0, weight)), true);
        due(16, "another kind", x.fits(constant, toWeight), false);
        due(16, "another length", x.fits(weight, same), false);
        due(16, "a variable is not a case of a weight", x.fits(weights, toWeight), false);
        due(16, "without types", x.fits(a, a), false);
        due(16, "without the second type", x.fits(same, a), false);
        due(16, "without the first type", x.fits(a, same), false);
        for (int wrong : new int[] {-1, x.count(0), Integer.MAX_VALUE, Integer.MIN_VALUE}) {
            refused(15, x, "same " + wrong, () -> x.same(wrong, 0), INDEX);
            refused(15, x, "same 0 " + wrong, () -> x.same(0, wrong), INDEX);
            refused(16, x, "fits " + wrong, () -> x.fits(wrong, 0), INDEX);
            refused(16, x, "fits 0 " + wrong, () -> x.fits(0, wrong), INDEX);
            refused(17, x, "goes " + wrong, () -> x.goes(wrong, 0), INDEX);
            refused(17, x, "goes 0 " + wrong, () -> x.goes(0, wrong), INDEX);
            refused(18, x, "first " + wrong, () -> x.first(wrong), INDEX);
        }
    }

    private static void fittingLongTypes() {
        Recorded x = new Recorded();
        int a = x.name(0);
        int b = x.name(1);
        int weight = x.plain(0);
        int twice = x.wheel(0, x.axle(a, a));
        int swap = x.wheel(0, x.wheel(1, x.axle(b, a)));
        int ofAxle = x.wheel(0, x.axle(x.axle(a, weight), x.axle(a, weight)));
        int other = x.wheel(0, x.axle(x.axle(a, weight), x.axle(weight, a)));
        int loose = x.wheel(0, x.tell(2, a, x.axle(weight, weight)));
        due(16, "both the same great one", x.fits(x.end(x.axle(ofAxle, a), 0), ofAxle), false);
        int two = x.wheel(0, x.wheel(1, x.axle(a, b)));
        due(16, "variables change places", x.fits(two, swap), false);
        due(16, "variables of the second are fixed", x.fits(swap, two), false);
        due(16, "the same type at both places", x.fits(twice, loose), false);
        int id = x.wheel(0, a);
        int big = x.turn(id, id);
        due(16, "a type with types in it for a variable", x.fits(id, x.turn(id, x.wheel(0, a))), true);
        due(16, "a turning of itself", row(x, big), "2 10 10");
        int grown = x.wheel(0, x.end(x.axle(a, x.end(a, 0)), 0));
        due(13, "an axle for the variable", row(x, grown), "2 3 10 11 3 10 11");
        due(16, "the same axle at both places", x.fits(id, grown), true);
        due(16, "not an axle and another one", x.fits(id, x.wheel(0, x.axle(x.end(a, 1), x.end(a, 0)))), false);
        due(16, "axles that are not the same", x.fits(twice, other), false);
    }

    private static void going() {
        Recorded x = new Recorded();
        int a = x.name(0);
        int weight = x.plain(0);
        int id = x.wheel(0, a);
        int selfTurn = x.turn(a, a);
        int flagged = x.wheel(0, x.either(a, a, a));
        int bad = x.end(weight, 0);
        due(17, "goes", x.goes(id, weight), 0);
        due(17, "a weight does not turn", x.goes(weight, id), 2);
        due(17, "not by a weight", x.goes(flagged, weight), 2);
        due(17, "the first one's fault", x.goes(a, bad), 1);
        due(17, "the second one's fault, ahead of the turning", x.goes(weight, a), 1);
        due(17, "the second one's fault", x.goes(id, bad), 2);
        due(17, "fault 3 within", x.goes(x.wheel(0, selfTurn), id), 3);
        int apply = x.wheel(0, x.wheel(1, x.turn(a, x.turn(a, x.name(1)))));
        int double0 = x.wheel(0, x.axle(a, a));
        due(17, "fault 3 of the turning", x.goes(apply, double0), 3);
        long before = x.digest();
        due(18, "the first that goes", x.first(id), 1);
        due(18, "by itself at the earliest", x.first(apply), id);
        due(18, "none", x.first(weight), -1);
        due(18, "none for a fault", x.first(a), -1);
        due(17, "nothing is changed", x.digest(), before);
        while (x.count(0) < 40) {
            x.plain(0);
        }
        due(17, "also with 40", x.goes(id, weight), 0);
        due(17, "also with 40, a fault", x.goes(weight, weight), 2);
        due(18, "also with 40", x.first(id), 1);
    }

    private static void goingBeyondTheSize() {
        Recorded x = new Recorded();
        int part = x.plain(0);
        for (int i = 0; i < 4; i++) {
            part = x.axle(part, part);
        }
        int wheel = x.wheel(0, x.axle(part, x.plain(1)));
        int great = part;
        due(17, "greater than 60", x.goes(wheel, x.wheel(0, wheel)), 0);
        refused(5, x, "as a turning it is refused", () -> x.turn(wheel, wheel + 1), STATE);
        due(17, "a fault beyond the size", x.goes(great, great), 2);
    }

    private static void longestAndMean() {
        Recorded x = new Recorded();
        x.name(0);
        due(19, "no part has a type", x.longest(), -1);
        due(20, "no part has a type", x.mean(), 0.0);
        x.plain(0);
        x.plain(1);
        due(19, "of several the smallest number", x.longest(), 1);
        due(20, "mean of 1 and 1", x.mean(), 1.0);
        x.wheel(0, 0);
        x.axle(1, 1);
        due(19, "of several long ones the smallest number", x.longest(), 3);
        due(20, "mean of 1, 1, 3, 3", x.mean(), 2.0);
        x.axle(1, 3);
        due(19, "the longest", x.longest(), 5);
        due(20, "mean of 1, 1, 3, 3, 5", x.mean(), 13.0 / 5.0);
        x.plain(0);
        due(20, "mean of 1, 1, 3, 3, 5, 1", x.mean(), 14.0 / 6.0);
        x.undo();
        x.undo();
        due(19, "without the longest", x.longest(), 3);
    }

    private static void digests() {
        Recorded x = new Recorded();
        x.name(0);
        x.wheel(0, 0);
        x.axle(1, 1);
        x.end(0, 1);
        x.plain(1);
        x.turn(4, 4);
        long d = 1597;
        for (int i = 0; i < 6; i++) {
            d = d * 31 + x.count(i);
        }
        for (int p = 0; p < 6; p++) {
            for (int i = 0; i < 7; i++) {
                d = d * 31 + x.part(p, i);
            }
            for (int i = 0; i < 5; i++) {
                d = d * 31 + x.type(p, i);
            }
            for (int i = 0; i < x.type(p, 2); i++) {
                d = d * 31 + x.code(p, i);
            }
        }
        due(21, "digest", x.digest(), d);
        Recorded y = new Recorded();
        y.plain(0);
        long e = 1597;
        for (int value : new int[] {1, 1, 0, 0, 0, 0, 0, -1, -1, -1, -1, 1, 1, 0, -1, 1, 0, 1, 0}) {
            e = e * 31 + value;
        }
        due(21, "digest of a weight", y.digest(), e);
    }

    public static void main(String[] args) {
        newObject();
        plainOnes();
        names();
        wheels();
        turnings();
        tellings();
        axles();
        ends();
        choices();
        greatest();
        undoing();
        ownVariables();
        tellingsInTellings();
        faultOrder();
        roundAbout();
        longRows();
        deepest();
        longerLater();
        sharedTypes();
        telling();
        counting();
        comparing();
        fittingLongTypes();
        going();
        goingBeyondTheSize();
        longestAndMean();
        digests();
        Checks.end();
    }
}
