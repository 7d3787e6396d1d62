import java.lang.reflect.Constructor;
import java.lang.reflect.Field;
import java.lang.reflect.Method;
import java.lang.reflect.Modifier;
import java.nio.file.Files;
import java.nio.file.Path;
import java.util.ArrayList;
import java.util.List;
import java.util.TreeSet;

/** The face is that of the document, and no more; the source keeps to what can be seen of LANGUAGE.md. */
final class FaceTest {
    private static final Path SOURCE = Path.of("src/main/java/Henselhall.java");
    private static final Path DOCUMENT = Path.of("../shared/DOC.md");

    public static void main(String[] args) throws Exception {
        TreeSet<String> due = documentFace();
        TreeSet<String> got = classFace();
        Check.due("the face has 39 methods and a constructor", due::size, 40);
        Check.due("the face", () -> got, due);
        namesInside();
        source(Files.readString(SOURCE));
        Check.end();
    }

    private static TreeSet<String> documentFace() throws Exception {
        TreeSet<String> face = new TreeSet<>();
        for (String line : Files.readAllLines(DOCUMENT)) {
            if (line.startsWith("    public ")) {
                face.add(line.trim().replace("public ", "").replace(";", "").replaceAll("(int|long) \\w+([,)])", "$1$2"));
            }
        }
        return face;
    }

    private static TreeSet<String> classFace() {
        TreeSet<String> face = new TreeSet<>();
        for (Constructor<?> one : Henselhall.class.getDeclaredConstructors()) {
            if (!Modifier.isPrivate(one.getModifiers())) {
                face.add("Henselhall" + told(one.getParameterTypes(), one.getExceptionTypes()));
            }
        }
        for (Method one : Henselhall.class.getDeclaredMethods()) {
            if (!Modifier.isPrivate(one.getModifiers())) {
                String kind = Modifier.isPublic(one.getModifiers()) ? "" : "not public ";
                face.add(kind + one.getReturnType().getSimpleName() + " " + one.getName()
                    + told(one.getParameterTypes(), one.getExceptionTypes()));
            }
        }
        for (Field one : Henselhall.class.getDeclaredFields()) {
            if (!Modifier.isPrivate(one.getModifiers())) {
                face.add("field " + one.getName());
            }
        }
        return face;
    }

    private static String told(Class<?>[] takes, Class<?>[] throwing) {
        List<String> parts = new ArrayList<>();
        for (Class<?> one : takes) {
            parts.add(one.getSimpleName());
        }
        List<String> thrown = new ArrayList<>();
        for (Class<?> one : throwing) {
            thrown.add(one.getSimpleName());
        }
        String end = thrown.isEmpty() ? "" : " throws " + String.join(", ", thrown);
        return "(" + String.join(", ", parts) + ")" + end;
    }

    private static void namesInside() {
        TreeSet<String> names = new TreeSet<>();
        for (Method one : Henselhall.class.getDeclaredMethods()) {
            if (Modifier.isPublic(one.getModifiers())) {
                names.add(one.getName());
            }
        }
        for (Method one : Henselhall.class.getDeclaredMethods()) {
            boolean hidden = Modifier.isPrivate(one.getModifiers());
            Check.due("a name of the face: " + one.getName(), () -> hidden && names.contains(one.getName()), false);
        }
        Check.due("final", () -> Modifier.isFinal(Henselhall.class.getModifiers()), true);
        for (Class<?> inside : Henselhall.class.getDeclaredClasses()) {
            Check.due(inside.getSimpleName() + " is private and static",
                () -> Modifier.isPrivate(inside.getModifiers()) && Modifier.isStatic(inside.getModifiers()), true);
            for (Method one : inside.getDeclaredMethods()) {
                Check.due("a name of the face: " + one.getName(), () -> names.contains(one.getName()), false);
                Check.due("parameters: " + one.getName(), () -> one.getParameterCount() <= 7, true);
            }
            int fields = 0;
            for (Field one : inside.getDeclaredFields()) {
                fields += Modifier.isStatic(one.getModifiers()) ? 0 : 1;
                boolean fixed = !Modifier.isStatic(one.getModifiers()) || Modifier.isFinal(one.getModifiers());
                Check.due("static and final: " + one.getName(), () -> fixed, true);
            }
            int found = fields;
            Check.due("fields of " + inside.getSimpleName(), () -> found <= 20, true);
        }
        Check.due("classes", () -> Henselhall.class.getDeclaredClasses().length <= 11, true);
    }

    private static void source(String text) {
        String[] ruledOut = {"->", "::", "catch", "finally", "synchronized", "assert", "Exact", "System.", "Random",
            "Thread", "hashCode", "toString", "equals", "static {", "\t", "package ", "BigInteger"};
        for (String one : ruledOut) {
            Check.due("in the source: " + one, () -> text.contains(one), false);
        }
        Check.due("one import", () -> text.split("import ").length, 2);
        int start = -1;
        String[] lines = text.split("\n");
        for (int k = 0; k < lines.length; k++) {
            if (lines[k].matches(" {4,8}[a-z].*\\{") && lines[k].contains("(")) {
                start = k;
            }
            if (start >= 0 && lines[k].matches(" {4,8}\\}")) {
                int length = k - start + 1;
                Check.due("lines of the method at line " + (start + 1), () -> length <= 60, true);
                start = -1;
            }
            int line = k;
            Check.due("signs of line " + (k + 1), () -> lines[line].length() <= 120
                && lines[line].chars().allMatch(c -> c < 127), true);
        }
    }
}
