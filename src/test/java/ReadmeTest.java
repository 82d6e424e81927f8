import java.io.IOException;
import java.nio.file.Files;
import java.nio.file.Path;
import java.util.ArrayList;
import java.util.Arrays;
import java.util.List;

/** The example in README.md answers what README.md says, and README.md names each call of the face. */
public final class ReadmeTest {
    private static final String[] EXAMPLE = {
        "GearTypes mill = new GearTypes();",
        "int x = mill.name(0);",
        "int wheel = mill.wheel(0, x);",
        "int weight = mill.plain(0);",
        "int turning = mill.turn(wheel, weight);",
        "mill.type(wheel, 2);",
        "mill.code(turning, 0);",
        "mill.goes(weight, wheel);",
        "mill.first(wheel);",
    };

    private static List<String> block(List<String> lines, String begin) {
        List<String> inside = new ArrayList<>();
        int from = lines.indexOf(begin);
        for (int i = from + 1; from >= 0 && i < lines.size() && !lines.get(i).equals("```"); i++) {
            inside.add(lines.get(i).replaceAll("\\s*//.*", ""));
        }
        return inside;
    }

    private static void answers() {
        GearTypes mill = new GearTypes();
        int x = mill.name(0);
        int wheel = mill.wheel(0, x);
        int weight = mill.plain(0);
        int turning = mill.turn(wheel, weight);
        Checks.due("codes of the wheel", mill.type(wheel, 2), 3);
        Checks.due("its row", mill.code(wheel, 0) + " " + mill.code(wheel, 1) + " " + mill.code(wheel, 2), "2 10 10");
        Checks.due("the turning's code", mill.code(turning, 0), 0);
        Checks.due("a weight as a wheel", mill.goes(weight, wheel), 2);
        Checks.due("the first that turns the wheel", mill.first(wheel), 1);
        Checks.due("the name's fault", mill.type(x, 0), 1);
    }

    public static void main(String[] args) throws IOException {
        List<String> lines = Files.readAllLines(Path.of("README.md"));
        Checks.due("the example", block(lines, "```java"), Arrays.asList(EXAMPLE));
        answers();
        String text = String.join("\n", lines);
        for (String call : new String[] {"plain", "name", "wheel", "turn", "tell", "axle", "end", "either", "undo",
            "part", "type", "code", "count", "same", "fits", "goes", "first", "longest", "mean", "digest"}) {
            Checks.due("README.md names " + call, text.contains("`" + call + "`"), true);
        }
        Checks.end();
    }
}
