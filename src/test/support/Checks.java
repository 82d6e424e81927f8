import java.util.List;

/** What the tests have in common: answers that are due, and calls that are refused. */
public final class Checks {
    static final String INDEX = "IndexOutOfBoundsException";
    static final String ARGUMENT = "IllegalArgumentException";
    static final String STATE = "IllegalStateException";

    private static int checks = 0;
    private static int wrong = 0;
    private static String sentence = "";

    private Checks() { }

    /** The words of the document that the next checks hold: they are told with what is not as due. */
    static void sentence(String words) {
        sentence = words;
    }

    static void due(String call, Object got, Object want) {
        checks++;
        if (!got.equals(want)) {
            wrong++;
            if (!sentence.isEmpty()) {
                System.out.print("\"" + sentence + "\": ");
            }
            System.out.println(call + " answered " + got + ", due is " + want);
        }
    }

    /** The call throws this, and behind it the object answers all its questions as before. */
    static void refused(Recorded x, String call, Recorded.Call refusedCall, String want) {
        List<String> before = x.everything();
        due(call, Recorded.told(refusedCall), want);
        sameAnswers(call, before, x.everything());
    }

    private static void sameAnswers(String call, List<String> before, List<String> behind) {
        due("how many answers there are behind the refused " + call, behind.size(), before.size());
        for (int i = 0; i < before.size() && i < behind.size(); i++) {
            if (!before.get(i).equals(behind.get(i))) {
                due("behind the refused " + call, behind.get(i), before.get(i));
                return;
            }
        }
    }

    static void typed(Recorded x, String what, int part, String row) {
        due(what + ", its fault", x.type(part, 0), 0);
        due(what + ", where its fault is", x.type(part, 1), -1);
        due(what + ", its row", x.row(part), row);
    }

    static void faulty(Recorded x, String what, int part, int fault, int at) {
        due(what, x.types(part), fault + " " + at + " 0 0 0");
    }

    /** The last call of a test: tells what it found, and ends it with 1 if something was not as due. */
    static void end() {
        System.out.println(checks + " checks, " + wrong + " wrong");
        if (wrong != 0) {
            System.exit(1);
        }
    }
}
