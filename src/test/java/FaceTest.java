import java.io.IOException;
import java.lang.reflect.Constructor;
import java.lang.reflect.Field;
import java.lang.reflect.Method;
import java.lang.reflect.Modifier;
import java.nio.file.Files;
import java.nio.file.Path;
import java.util.Arrays;
import java.util.Set;
import java.util.TreeSet;

/** The class's face is that of the document, and its source stays within the rules that a text shows. */
public final class FaceTest {
    private static final String[] FACE = {
        "int plain(int) IllegalArgumentException IllegalStateException",
        "int name(int) IllegalArgumentException IllegalStateException",
        "int wheel(int,int) IndexOutOfBoundsException IllegalArgumentException IllegalStateException",
        "int turn(int,int) IndexOutOfBoundsException IllegalStateException",
        "int tell(int,int,int) IndexOutOfBoundsException IllegalArgumentException IllegalStateException",
        "int axle(int,int) IndexOutOfBoundsException IllegalStateException",
        "int end(int,int) IndexOutOfBoundsException IllegalArgumentException IllegalStateException",
        "int either(int,int,int) IndexOutOfBoundsException IllegalStateException",
        "int undo() IllegalStateException",
        "int part(int,int) IndexOutOfBoundsException",
        "int type(int,int) IndexOutOfBoundsException",
        "int code(int,int) IndexOutOfBoundsException",
        "int count(int) IndexOutOfBoundsException",
        "boolean same(int,int) IndexOutOfBoundsException",
        "boolean fits(int,int) IndexOutOfBoundsException",
        "int goes(int,int) IndexOutOfBoundsException",
        "int first(int) IndexOutOfBoundsException",
        "int longest()",
        "double mean()",
        "long digest()",
    };
    private static final String[] NOT_WRITTEN = {
        "::", "Exact(", "synchronized", "assert ", "finally", "Thread", "random", "Random", "protected",
        "nanoTime", "currentTimeMillis", "getMessage", "hashCode", "native ", "package ",
    };
    private static final Set<String> IMPORTED = Set.of("java.util.ArrayList", "java.util.List", "java.util.Arrays",
        "java.util.Iterator", "java.util.NoSuchElementException");
    private static final Set<String> OF_THE_MACHINE = Set.of("ArrayIndexOutOfBoundsException",
        "NullPointerException", "ClassCastException", "NegativeArraySizeException", "ArrayStoreException",
        "Throwable", "Error", "(Exception ");
    private static int wrong = 0;

    private static void due(String what, Object got, Object want) {
        if (!got.equals(want)) {
            wrong++;
            System.out.println(what + " is " + got + ", due is " + want);
        }
    }

    private static String written(Method m) {
        StringBuilder s = new StringBuilder(m.getReturnType().getName()).append(' ').append(m.getName()).append('(');
        for (Class<?> c : m.getParameterTypes()) {
            s.append(s.charAt(s.length() - 1) == '(' ? "" : ",").append(c.getName());
        }
        s.append(')');
        for (Class<?> c : m.getExceptionTypes()) {
            s.append(' ').append(c.getSimpleName());
        }
        return s.toString();
    }

    private static void methods() {
        Set<String> got = new TreeSet<>();
        Set<String> names = new TreeSet<>();
        for (Method m : GearTypes.class.getDeclaredMethods()) {
            if (Modifier.isPublic(m.getModifiers())) {
                got.add(written(m));
                names.add(m.getName());
                due(m.getName() + " is static", Modifier.isStatic(m.getModifiers()), false);
            }
        }
        due("the face", got, new TreeSet<>(Arrays.asList(FACE)));
        for (Method m : GearTypes.class.getDeclaredMethods()) {
            if (m.isSynthetic()) {
                continue;
            }
            boolean hidden = Modifier.isPrivate(m.getModifiers());
            due(m.getName() + " is private with a public name", hidden && names.contains(m.getName()), false);
            due(m.getName() + " is public or private", hidden || names.contains(m.getName()), true);
        }
    }

    /** The document's own lines of the face, its constructor ahead of them, are in the class as they stand. */
    private static void asTheDocumentHasIt() throws IOException {
        String document = Files.readString(Path.of("../shared/DOC.md"));
        String text = Files.readString(Path.of("src/main/java/GearTypes.java")).replaceAll("\\s+", " ");
        int from = document.indexOf("```java\n");
        int to = document.indexOf("```", from + 3);
        int members = 0;
        int at = 0;
        for (String line : document.substring(from, to).split("\n")) {
            if (line.endsWith(";")) {
                String member = line.strip().replace(";", " {");
                int found = text.indexOf(member, at);
                due("behind the one ahead of it stands \"" + member + "\", which", found >= 0, true);
                at = Math.max(at, found);
                members++;
            }
        }
        due("the members that the document has", members, FACE.length + 1);
    }

    /** Ahead of which call each heading of the document stands. */
    private static void headings() throws IOException {
        String text = Files.readString(Path.of("src/main/java/GearTypes.java")).replaceAll("\\s+", " ");
        due("making ahead of plain", text.contains("// ---- making public int plain("), true);
        due("parts and types ahead of part", text.contains("// ---- parts and types public int part("), true);
        due("comparing ahead of same", text.contains("// ---- comparing public boolean same("), true);
    }

    private static void otherMembers() {
        int modifiers = GearTypes.class.getModifiers();
        due("public and final", Modifier.isPublic(modifiers) && Modifier.isFinal(modifiers), true);
        Constructor<?>[] made = GearTypes.class.getDeclaredConstructors();
        due("constructors", made.length, 1);
        due("its parameters", made[0].getParameterCount(), 0);
        due("it is public", Modifier.isPublic(made[0].getModifiers()), true);
        for (Field f : GearTypes.class.getDeclaredFields()) {
            boolean state = Modifier.isStatic(f.getModifiers()) && !Modifier.isFinal(f.getModifiers());
            due(f.getName() + " is private", f.isSynthetic() || Modifier.isPrivate(f.getModifiers()), true);
            due(f.getName() + " is static state", state, false);
        }
        for (Class<?> c : GearTypes.class.getDeclaredClasses()) {
            int of = c.getModifiers();
            due(c.getName() + " is public or protected", Modifier.isPublic(of) || Modifier.isProtected(of), false);
            for (Field f : c.getDeclaredFields()) {
                boolean state = Modifier.isStatic(f.getModifiers()) && !Modifier.isFinal(f.getModifiers());
                due(c.getName() + "." + f.getName() + " is static state", state, false);
            }
        }
    }

    private static void imported(int number, String text) {
        if (text.startsWith("import ")) {
            String name = text.substring("import ".length()).replace(";", "").strip();
            due("line " + number + " imports what the rules list", IMPORTED.contains(name), true);
        }
    }

    private static void source() throws IOException {
        Path path = Path.of("src/main/java/GearTypes.java");
        int number = 0;
        for (String line : Files.readAllLines(path)) {
            number++;
            String text = line.strip();
            if (text.startsWith("//") || text.startsWith("*") || text.startsWith("/*")) {
                continue;
            }
            imported(number, text);
            for (String part : NOT_WRITTEN) {
                due("line " + number + " with " + part, line.contains(part), false);
            }
            for (String part : OF_THE_MACHINE) {
                due("line " + number + " with " + part, line.contains(part), false);
            }
            due("line " + number + " with System", line.replace("System.arraycopy", "").contains("System."), false);
        }
    }

    public static void main(String[] args) throws IOException {
        methods();
        asTheDocumentHasIt();
        headings();
        otherMembers();
        source();
        if (wrong != 0) {
            System.exit(1);
        }
        System.out.println("the face is as due");
    }
}
