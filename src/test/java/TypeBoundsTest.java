/** The boundary cases of finding types: what "Terms" says of types, faults and rows. */
public final class TypeBoundsTest {
    // ---- names

    private static void noTypeAround() {
        Checks.sentence("names that have types (at first none); 1: a name that has no type around it");
        for (int name = 0; name < 10; name++) {
            Recorded x = new Recorded();
            int weight = x.plain(0);
            int part = x.name(name);
            Checks.faulty(x, "name " + name + " by itself", part, 1, part);
            for (int other = 0; other < 10; other++) {
                int wheel = x.wheel(other, part);
                int telling = x.tell(other, weight, part);
                if (name == other) {
                    Checks.typed(x, "name " + name + " in its wheel", wheel, "2 10 10");
                    Checks.typed(x, "name " + name + " in its telling", telling, "0");
                } else {
                    Checks.faulty(x, "name " + name + " in a wheel of " + other, wheel, 1, part);
                    Checks.faulty(x, "name " + name + " in a telling of " + other, telling, 1, part);
                }
            }
        }
    }

    private static void notAroundIt() {
        Recorded x = new Recorded();
        int weight = x.plain(0);
        int flag = x.plain(1);
        int a = x.name(0);
        Checks.sentence("its name has not this type in it");
        Checks.faulty(x, "a telling's name in what is told", x.tell(0, a, weight), 1, a);
        Checks.typed(x, "it has the type around it there", x.tell(0, flag, x.tell(0, a, a)), "1");
        Checks.sentence("the latest telling or wheel of this name around it");
        Checks.faulty(x, "a wheel's name behind it", x.axle(x.wheel(0, a), a), 1, a);
        Checks.faulty(x, "a wheel's name ahead of it", x.axle(a, x.wheel(0, a)), 1, a);
        Checks.faulty(x, "a telling's name behind it", x.axle(x.tell(0, weight, a), a), 1, a);
        Checks.faulty(x, "a wheel's name in what turns it", x.turn(x.wheel(0, a), a), 1, a);
    }

    private static void latestAround() {
        Checks.sentence("the type of the latest telling or wheel of this name around it");
        Recorded x = new Recorded();
        int weight = x.plain(0);
        int flag = x.plain(1);
        int a = x.name(0);
        int wheel = x.wheel(0, a);
        Checks.typed(x, "a wheel in a wheel", x.wheel(0, wheel), "2 10 2 11 11");
        Checks.typed(x, "a telling in a telling", x.tell(0, weight, x.tell(0, flag, a)), "1");
        Checks.typed(x, "a telling in a wheel", x.wheel(0, x.tell(0, flag, a)), "2 10 1");
        Checks.typed(x, "a wheel in a telling", x.tell(0, weight, wheel), "2 10 10");
        Checks.typed(x, "behind the latest the earlier one", x.tell(0, weight, x.axle(x.tell(0, flag, a), a)), "3 1 0");
        Checks.typed(x, "behind a wheel the earlier one", x.wheel(0, x.axle(wheel, a)), "2 10 3 2 11 11 10");
        Checks.typed(x, "another name between", x.wheel(0, x.wheel(1, a)), "2 10 2 11 10");
    }

    // ---- own variables

    /** An axle of two uses of name 9, turned by a weight and by a flag: it fails if they have one variable. */
    private static int usedByBoth(Recorded x, int weight, int flag) {
        int nine = x.name(9);
        return x.axle(x.turn(nine, weight), x.turn(nine, flag));
    }

    private static void ownVariables() {
        Checks.sentence("of a telling, with a new variable in the place of each variable that is its own");
        Recorded x = new Recorded();
        int weight = x.plain(0);
        int flag = x.plain(1);
        int a = x.name(0);
        int b = x.name(1);
        int same = x.wheel(0, a);
        int both = usedByBoth(x, weight, flag);
        Checks.typed(x, "used by two kinds", x.tell(9, same, both), "3 0 1");
        Checks.faulty(x, "the name of a wheel is not", x.wheel(9, both), 2, both - 1);
        int nine = x.name(9);
        Checks.typed(x, "its own at each use", x.tell(9, same, x.axle(nine, nine)), "3 2 10 10 2 11 11");
        int firstOf = x.wheel(0, x.wheel(1, a));
        Checks.typed(x, "each of its own", x.tell(9, firstOf, nine), "2 10 2 11 10");
        int told = x.tell(9, x.wheel(1, x.axle(a, b)), both);
        Checks.typed(x, "one is its own and one is not", x.wheel(0, told), "2 10 3 3 10 0 3 10 1");
        Checks.typed(x, "none is its own", x.wheel(0, x.tell(9, a, x.axle(nine, nine))), "2 10 3 10 10");
        Checks.sentence("variables in it are its own, if they are in no type that a name around it has");
        Checks.typed(x, "no name is around it", x.tell(9, same, both), "3 0 1");
        int notOwn = x.tell(9, a, both);
        Checks.faulty(x, "the wheel's variable", x.wheel(0, notOwn), 2, both - 1);
        int inAxle = x.tell(0, a, x.tell(9, x.wheel(2, a), both));
        Checks.typed(x, "a wheel from its own to what is not", x.wheel(0, inAxle), "2 10 3 10 10");
    }

    private static void asItIsThen() {
        Checks.sentence("in no type that a name around it has as it is then");
        Recorded x = new Recorded();
        int weight = x.plain(0);
        int flag = x.plain(1);
        int a = x.name(0);
        int b = x.name(1);
        int both = usedByBoth(x, weight, flag);
        // while it is told, the type of name 0 around it gets this wheel's variable
        int got = x.wheel(1, x.end(x.axle(b, x.either(flag, a, x.axle(b, b))), 0));
        Checks.faulty(x, "got into a type around it while it was found",
            x.wheel(0, x.tell(9, got, both)), 2, both - 1);
        // name 0 loses its variable for a weight, so no variable is left around it
        int lost = x.wheel(1, x.end(x.axle(b, x.either(flag, a, weight)), 0));
        Checks.typed(x, "given away while it was found", x.wheel(0, x.tell(9, lost, both)), "2 0 3 0 1");
        int before = x.axle(x.either(flag, a, x.wheel(2, x.name(2))), weight);
        int toldBefore = x.tell(3, before, x.tell(9, a, both));
        Checks.faulty(x, "given an own one ahead of it, it is not its own", x.wheel(0, toldBefore), 2, both - 1);
    }

    private static void hiddenOrNot() {
        Recorded x = new Recorded();
        int weight = x.plain(0);
        int flag = x.plain(1);
        int a = x.name(0);
        int b = x.name(1);
        int both = usedByBoth(x, weight, flag);
        Checks.sentence("whether a later one of the same name hides it or not");
        int told = x.tell(1, a, x.wheel(0, x.tell(9, b, both)));
        Checks.faulty(x, "a wheel's variable by another name, its own one hidden", x.wheel(0, told), 2, both - 1);
        Checks.faulty(x, "the later one's", x.wheel(0, x.wheel(0, x.tell(9, a, both))), 2, both - 1);
        Checks.sentence("of a telling around it, other than its own ones");
        int same = x.wheel(0, a);
        Checks.typed(x, "own ones of a telling around it", x.tell(1, same, x.tell(9, b, both)), "3 0 1");
        int second = x.tell(1, same, x.tell(1, b, x.tell(9, b, both)));
        Checks.typed(x, "of two tellings around it", second, "3 0 1");
        int notOwn = x.tell(1, x.wheel(2, a), x.tell(9, x.turn(b, weight), both));
        Checks.faulty(x, "other ones of a telling around it", x.wheel(0, notOwn), 2, both - 1);
    }

    // ---- two types are made the same

    private static void kinds() {
        Checks.sentence("2: two types cannot be made the same, as the one is of another kind");
        Recorded x = new Recorded();
        int weight = x.plain(0);
        int flag = x.plain(1);
        int[] kinds = {weight, flag, x.wheel(0, weight), x.axle(weight, weight)};
        String[] rows = {"0", "1", "2 10 0", "3 0 0"};
        for (int i = 0; i < 4; i++) {
            for (int j = 0; j < 4; j++) {
                int choice = x.either(flag, kinds[i], kinds[j]);
                if (i == j) {
                    Checks.typed(x, "a choice of two of kind " + i, choice, rows[i]);
                } else {
                    Checks.faulty(x, "a choice of kinds " + i + " and " + j, choice, 2, choice);
                }
            }
        }
    }

    private static void kindsThatAreAsked() {
        Recorded x = new Recorded();
        int weight = x.plain(0);
        int flag = x.plain(1);
        int wheel = x.wheel(0, weight);
        int axle = x.axle(flag, weight);
        int name = x.name(0);
        Checks.sentence("the first part is made the same as a wheel from the second one to a new variable");
        for (int other : new int[] {weight, flag, axle}) {
            int turning = x.turn(other, weight);
            Checks.faulty(x, "a turning of " + other, turning, 2, turning);
        }
        Checks.typed(x, "a turning of a wheel", x.turn(wheel, weight), "0");
        Checks.typed(x, "a turning of a variable", x.wheel(0, x.turn(name, weight)), "2 2 0 10 10");
        Checks.sentence("it is made the same as an axle of two new variables; it is that of its side");
        for (int other : new int[] {weight, flag, wheel}) {
            for (int side = 0; side < 2; side++) {
                int end = x.end(other, side);
                Checks.faulty(x, "an end of " + other, end, 2, end);
            }
        }
        Checks.typed(x, "the left end", x.end(axle, 0), "1");
        Checks.typed(x, "the right end", x.end(axle, 1), "0");
        Checks.typed(x, "the left end of a variable", x.wheel(0, x.end(name, 0)), "2 3 10 11 10");
        Checks.typed(x, "the right end of a variable", x.wheel(0, x.end(name, 1)), "2 3 10 11 11");
        Checks.sentence("A choice: the type of the part that chooses is made the same as flag");
        for (int other : new int[] {weight, wheel, axle}) {
            int choice = x.either(other, weight, weight);
            Checks.faulty(x, other + " chooses", choice, 2, choice);
        }
        Checks.typed(x, "a flag chooses", x.either(flag, weight, weight), "0");
        Checks.typed(x, "a variable chooses", x.wheel(0, x.either(name, weight, weight)), "2 1 0");
    }

    private static void withinItself() {
        Checks.sentence("3: a variable would have to be within its own type");
        Recorded x = new Recorded();
        int weight = x.plain(0);
        int flag = x.plain(1);
        int a = x.name(0);
        int b = x.name(1);
        int self = x.turn(a, a);
        Checks.faulty(x, "turned by itself", x.wheel(0, self), 3, self);
        int[] around = {x.axle(a, weight), x.axle(weight, a), x.axle(x.axle(weight, a), weight)};
        for (int other : around) {
            int one = x.either(flag, a, other);
            Checks.faulty(x, "ahead of its axle", x.wheel(0, one), 3, one);
            int two = x.either(flag, other, a);
            Checks.faulty(x, "behind its axle", x.wheel(0, two), 3, two);
        }
        int wheelTo = x.either(flag, a, x.wheel(2, a));
        Checks.faulty(x, "to itself", x.wheel(0, wheelTo), 3, wheelTo);
        int wheelFrom = x.either(flag, a, Shapes.wheelOf(x, flag, a, weight));
        Checks.faulty(x, "from itself", x.wheel(0, wheelFrom), 3, wheelFrom);
        int round = x.either(flag, x.axle(a, b), x.axle(x.axle(b, weight), x.axle(weight, a)));
        Checks.faulty(x, "by another variable", x.wheel(0, x.wheel(1, round)), 3, round);
    }

    private static void sameAsItself() {
        Checks.sentence("(a variable is the same as itself)");
        Recorded x = new Recorded();
        int flag = x.plain(1);
        int a = x.name(0);
        int b = x.name(1);
        Checks.typed(x, "a choice of itself", x.wheel(0, x.either(flag, a, a)), "2 10 10");
        int axles = x.either(flag, x.axle(a, a), x.axle(a, a));
        Checks.typed(x, "in an axle", x.wheel(0, axles), "2 10 3 10 10");
        int chain = x.either(flag, x.axle(a, x.axle(b, a)), x.axle(b, x.axle(a, b)));
        Checks.typed(x, "by another variable", x.wheel(0, x.wheel(1, chain)), "2 10 2 10 3 10 3 10 10");
        int again = x.axle(x.either(flag, a, b), x.axle(x.either(flag, b, a), x.either(flag, a, b)));
        Checks.typed(x, "made the same again", x.wheel(0, x.wheel(1, again)), "2 10 2 10 3 10 3 10 10");
        int known = x.axle(x.either(flag, a, x.axle(b, b)), x.either(flag, a, x.axle(b, b)));
        Checks.typed(x, "given twice", x.wheel(0, x.wheel(1, known)), "2 3 10 10 2 10 3 3 10 10 3 10 10");
    }

    // ---- which fault is the first one

    private static void fromTheLeft() {
        Checks.sentence("the left one (or that from which a wheel goes) ahead of the right one");
        Recorded x = new Recorded();
        int weight = x.plain(0);
        int flag = x.plain(1);
        int a = x.name(0);
        int twice = x.axle(a, a);
        int three = x.either(flag, x.axle(a, weight), x.axle(twice, flag));
        Checks.faulty(x, "3 on the left, 2 on the right", x.wheel(0, three), 3, three);
        int two = x.either(flag, x.axle(weight, a), x.axle(flag, twice));
        Checks.faulty(x, "2 on the left, 3 on the right", x.wheel(0, two), 2, two);
        int from = x.either(flag, Shapes.wheelOf(x, flag, a, weight), Shapes.wheelOf(x, flag, twice, flag));
        Checks.faulty(x, "3 from, 2 to", x.wheel(0, from), 3, from);
        Recorded y = new Recorded();
        weight = y.plain(0);
        flag = y.plain(1);
        a = y.name(0);
        twice = y.axle(a, a);
        int to = y.either(flag, Shapes.wheelOf(y, flag, weight, a), Shapes.wheelOf(y, flag, flag, twice));
        Checks.faulty(y, "2 from, 3 to", y.wheel(0, to), 2, to);
        int deep = y.either(flag, y.axle(y.axle(weight, weight), a), y.axle(y.axle(weight, flag), twice));
        Checks.faulty(y, "2 deep on the left, 3 on the right", y.wheel(0, deep), 2, deep);
        int whole = y.either(flag, y.axle(a, weight), y.wheel(1, twice));
        Checks.faulty(y, "the whole ahead of its parts", y.wheel(0, whole), 2, whole);
    }

    private static void givenMeanwhile() {
        Checks.sentence("with all that has been given to variables meanwhile");
        Recorded x = new Recorded();
        int weight = x.plain(0);
        int flag = x.plain(1);
        int a = x.name(0);
        int b = x.name(1);
        int two = x.either(flag, x.axle(a, a), x.axle(weight, flag));
        Checks.faulty(x, "a weight on the left, a flag on the right", x.wheel(0, two), 2, two);
        int same = x.either(flag, x.axle(a, a), x.axle(weight, weight));
        Checks.typed(x, "a weight on both sides", x.wheel(0, same), "2 0 3 0 0");
        int three = x.either(flag, x.axle(a, b), x.axle(b, x.axle(a, weight)));
        Checks.faulty(x, "the other one on the left, an axle of it on the right",
            x.wheel(0, x.wheel(1, three)), 3, three);
        int right = x.either(flag, x.axle(a, b), x.axle(x.axle(b, b), weight));
        Checks.typed(x, "what is given later shows in what was given earlier",
            x.wheel(0, x.wheel(1, right)), "2 3 0 0 2 0 3 3 0 0 0");
    }

    /** Two parts that fail by themselves, each ahead of the other one in each sort of part. */
    private static void firstInOrder() {
        Checks.sentence("The first fault in the order of finding counts, at the part that is just found");
        Recorded x = new Recorded();
        int flag = x.plain(1);
        int one = x.name(7);
        int two = x.turn(flag, flag);
        int[][] bad = {{one, two, 1}, {two, one, 2}};
        for (int[] order : bad) {
            int first = order[0];
            int second = order[1];
            int fault = order[2];
            Checks.faulty(x, "turning", x.turn(first, second), fault, first);
            Checks.faulty(x, "telling", x.tell(0, first, second), fault, first);
            Checks.faulty(x, "axle", x.axle(first, second), fault, first);
            Checks.faulty(x, "choice", x.either(first, second, second), fault, first);
            Checks.faulty(x, "choice behind the one that chooses", x.either(flag, first, second), fault, first);
            Checks.faulty(x, "the third of a choice", x.either(flag, flag, first), fault, first);
            Checks.faulty(x, "wheel", x.wheel(0, first), fault, first);
            Checks.faulty(x, "end", x.end(first, 0), fault, first);
        }
        int choice = x.either(x.axle(flag, flag), one, one);
        Checks.faulty(x, "2 at the choice, ahead of the second one's", choice, 2, choice);
        Checks.faulty(x, "what turns, ahead of the turning", x.turn(flag, one), 1, one);
        int weight = x.plain(0);
        Checks.faulty(x, "the third one, ahead of the choice", x.either(flag, weight, x.axle(flag, one)), 1, one);
    }

    /** Two parts that make name 0 a weight and a flag: the later one of them has the fault. */
    private static void laterOne() {
        Checks.sentence("is found, then that of the second one");
        Recorded x = new Recorded();
        int weight = x.plain(0);
        int flag = x.plain(1);
        int a = x.name(0);
        int toWeight = x.either(flag, a, weight);
        int toFlag = x.either(a, flag, flag);
        int[][] orders = {{toWeight, toFlag}, {toFlag, toWeight}};
        for (int[] order : orders) {
            int first = order[0];
            int second = order[1];
            Checks.faulty(x, "axle", x.wheel(0, x.axle(first, second)), 2, second);
            Checks.faulty(x, "turning", x.wheel(0, x.turn(first, second)), 2, second);
            Checks.faulty(x, "telling", x.wheel(0, x.tell(1, first, second)), 2, second);
            Checks.faulty(x, "choice", x.wheel(0, x.either(flag, first, second)), 2, second);
        }
        Checks.faulty(x, "what chooses, then the second one", x.wheel(0, x.either(a, toWeight, weight)), 2, toWeight);
        Checks.faulty(x, "what chooses, then the third one", x.wheel(0, x.either(a, weight, toWeight)), 2, toWeight);
        int turning = x.turn(a, toWeight);
        Checks.faulty(x, "both, then the turning", x.wheel(0, turning), 2, turning);
        int choice = x.either(flag, a, x.axle(weight, toFlag));
        Checks.faulty(x, "both, then the choice", x.wheel(0, choice), 2, choice);
        Checks.faulty(x, "inside of a wheel", x.wheel(0, x.axle(toFlag, x.wheel(1, toWeight))), 2, toWeight);
    }

    // ---- more than 60 codes: rows have an odd number of them, so 59 are the most and 61 too many

    private static void sixtyCodesOfWheelAndAxle() {
        Checks.sentence("4: behind this part its type, written out as a row, has more than 60 codes");
        Recorded x = new Recorded();
        int weight = x.plain(0);
        int most = Shapes.weights(x, 59);
        Checks.due("codes of the longest", x.type(most, 2), 59);
        int more = x.wheel(0, most);
        Checks.faulty(x, "a wheel of 61", more, 4, more);
        int axle = x.axle(weight, most);
        Checks.faulty(x, "an axle of 61", axle, 4, axle);
        int both = x.axle(most, weight);
        Checks.faulty(x, "an axle of 61, the left one long", both, 4, both);
        Recorded y = new Recorded();
        int twentyNine = Shapes.weights(y, 29);
        int wheel = y.wheel(0, y.axle(twentyNine, Shapes.weights(y, 27)));
        Checks.due("codes of a wheel of 59", y.type(wheel, 2), 59);
        int fiftyNine = y.axle(twentyNine, twentyNine);
        Checks.due("codes of an axle of 59", y.type(fiftyNine, 2), 59);
        int sixtyOne = y.axle(twentyNine, Shapes.weights(y, 31));
        Checks.faulty(y, "an axle of 29 and 31", sixtyOne, 4, sixtyOne);
        Checks.faulty(y, "at the part inside, not at that around it", y.end(sixtyOne, 0), 4, sixtyOne);
        Checks.faulty(y, "also where it is told and not used", y.tell(0, sixtyOne, twentyNine), 4, sixtyOne);
    }

    private static void sixtyCodesOfTurning() {
        Checks.sentence("4 at the part whose type it is: a turning");
        Recorded x = new Recorded();
        int a = x.name(0);
        int pair = x.axle(a, a);
        int doubler = x.wheel(0, pair);
        int plusTwo = x.wheel(0, x.axle(x.axle(x.plain(0), a), a));
        int twentySeven = Shapes.weights(x, 27);
        int twentyNine = Shapes.weights(x, 29);
        Checks.due("codes of a turning of 59", x.type(x.turn(doubler, twentyNine), 2), 59);
        Checks.due("codes of a turning of 57", x.type(x.turn(plusTwo, twentySeven), 2), 57);
        int more = x.turn(plusTwo, twentyNine);
        Checks.faulty(x, "a turning of 61", more, 4, more);
        Checks.due("goes of 59", x.goes(doubler, twentyNine), 0);
        Checks.due("goes of 61", x.goes(plusTwo, twentyNine), 4);
    }

    /** What a name is told as gets longer, as the variable of a wheel around it is made so long. */
    private static void sixtyCodesOfName() {
        Checks.sentence("4 at the part whose type it is: a name");
        for (int[] lengths : new int[][] {{27, 57}, {29, 61}}) {
            Recorded x = new Recorded();
            int weight = x.plain(0);
            int flag = x.plain(1);
            int c = x.name(2);
            int one = x.name(1);
            int told = x.axle(x.axle(weight, c), c);
            int later = x.either(flag, c, Shapes.weights(x, lengths[0]));
            int used = x.tell(4, later, x.tell(5, one, weight));
            int part = x.wheel(2, x.tell(1, told, used));
            if (lengths[1] < 60) {
                Checks.due("codes of the wheel", x.type(part, 2), lengths[0] + 2);
            } else {
                Checks.faulty(x, "a name of " + lengths[1], part, 4, one);
            }
        }
        Checks.sentence("a type that gets longer later is not asked again for that part");
        Recorded x = new Recorded();
        int weight = x.plain(0);
        int c = x.name(2);
        int told = x.axle(x.axle(weight, c), c);
        int later = x.either(x.plain(1), c, Shapes.weights(x, 29));
        int part = x.wheel(2, x.tell(1, told, x.tell(4, later, weight)));
        Checks.due("codes of a wheel with what got longer in it", x.types(part).startsWith("0 -1 31 0 "), true);
    }

    /** The second one of a choice gets longer, as it is made the same as the third one. */
    private static void sixtyCodesOfChoice() {
        Checks.sentence("4 at the part whose type it is: a choice");
        for (int[] lengths : new int[][] {{27, 57}, {29, 61}}) {
            Recorded x = new Recorded();
            int weight = x.plain(0);
            int flag = x.plain(1);
            int a = x.name(0);
            int b = x.name(1);
            int second = x.axle(x.axle(weight, a), a);
            int third = x.axle(b, Shapes.weights(x, lengths[0]));
            int choice = x.either(flag, second, third);
            int part = x.wheel(1, x.wheel(0, x.tell(4, choice, weight)));
            if (lengths[1] < 60) {
                Checks.due("codes of the wheel", x.type(part, 2), 59);
            } else {
                Checks.faulty(x, "a choice of " + lengths[1], part, 4, choice);
            }
        }
    }

    private static void notAskedAgain() {
        Checks.sentence("a type that gets longer later is not asked again for that part");
        Recorded x = new Recorded();
        int weight = x.plain(0);
        int a = x.name(0);
        int most = Shapes.weights(x, 59);
        int dropped = x.turn(x.wheel(0, weight), most);
        Checks.typed(x, "the turned wheel has 61 codes then", dropped, "0");
        int same = x.wheel(0, a);
        Checks.due("the turned wheel has 119 codes then", x.type(x.turn(same, most), 2), 59);
        Checks.due("goes with it", x.goes(same, most), 0);
    }

    private static void behindAllElse() {
        Checks.sentence("4 behind all else of it");
        Recorded x = new Recorded();
        int most = Shapes.weights(x, 59);
        int free = x.name(3);
        int weight = x.plain(0);
        Checks.faulty(x, "1 in the right part, ahead of 4 of the axle", x.axle(most, free), 1, free);
        int longWheel = x.wheel(0, most);
        Checks.faulty(x, "4 in the left part, ahead of 1 in the right one", x.axle(longWheel, free), 4, longWheel);
        int turned = x.turn(x.axle(weight, weight), most);
        Checks.faulty(x, "2 at the turning of what is long", turned, 2, turned);
        // the choice has 67 codes when all in it is the same
        for (int last = 0; last < 2; last++) {
            Recorded y = new Recorded();
            int a = y.name(0);
            int flag = y.plain(1);
            int second = y.axle(y.axle(y.plain(0), a), y.axle(a, flag));
            int third = y.axle(y.axle(y.name(1), Shapes.weights(y, 31)), y.axle(y.name(2), y.plain(last)));
            int choice = y.either(flag, second, third);
            int part = y.wheel(2, y.wheel(1, y.wheel(0, choice)));
            Checks.faulty(y, "2 at the choice, ahead of its 4", part, last == 0 ? 2 : 4, choice);
        }
    }

    // ---- the row

    private static void variablesInTheRow() {
        Checks.sentence("10 for the first one that comes in the row, 11 for the second one, and so on");
        Recorded x = new Recorded();
        int a = x.name(0);
        int b = x.name(1);
        int ab = x.axle(a, b);
        int ba = x.axle(b, a);
        Checks.typed(x, "the first of the row is 10", x.wheel(0, x.wheel(1, ab)), "2 10 2 11 3 10 11");
        Checks.typed(x, "whichever was made first", x.wheel(0, x.wheel(1, ba)), "2 10 2 11 3 11 10");
        Checks.typed(x, "the other wheel around", x.wheel(1, x.wheel(0, ab)), "2 10 2 11 3 11 10");
        int same = x.wheel(0, a);
        Checks.typed(x, "numbers of their own in each row", x.axle(same, x.wheel(1, b)), "3 2 10 10 2 11 11");
        Checks.typed(x, "in its end again from 10", x.end(x.axle(same, x.wheel(1, b)), 1), "2 10 10");
    }

    /** 29 wheels in one another have as many variables as a row can have. */
    private static void mostVariables() {
        Checks.sentence("10 and more: a variable");
        Recorded x = new Recorded();
        int part = x.name(0);
        for (int i = 0; i < 29; i++) {
            part = x.wheel(i % 10, part);
        }
        Checks.due("29 wheels", x.types(part), "0 -1 59 29 30");
        for (int i = 0; i < 29; i++) {
            Checks.due("code of wheel " + i, x.code(part, 2 * i), 2);
            Checks.due("code of variable " + i, x.code(part, 2 * i + 1), 10 + i);
        }
        // the wheel that was made first is the latest one of name 0 around the name
        Checks.due("the last code", x.code(part, 58), 38);
        int more = x.wheel(9, part);
        Checks.faulty(x, "30 wheels", more, 4, more);
    }

    public static void main(String[] args) {
        noTypeAround();
        notAroundIt();
        latestAround();
        ownVariables();
        asItIsThen();
        hiddenOrNot();
        kinds();
        kindsThatAreAsked();
        withinItself();
        sameAsItself();
        fromTheLeft();
        givenMeanwhile();
        firstInOrder();
        laterOne();
        sixtyCodesOfWheelAndAxle();
        sixtyCodesOfTurning();
        sixtyCodesOfName();
        sixtyCodesOfChoice();
        notAskedAgain();
        behindAllElse();
        variablesInTheRow();
        mostVariables();
        Checks.end();
    }
}
