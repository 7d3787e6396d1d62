import java.lang.reflect.Method;
import java.lang.reflect.Modifier;
import java.nio.file.Files;
import java.nio.file.Path;
import java.util.HashMap;
import java.util.List;
import java.util.Map;
import java.util.regex.Matcher;
import java.util.regex.Pattern;
import java.util.stream.Stream;

/** The example of README.md answers as README.md says, and README.md names every method and every test. */
final class ReadmeTest {
    private static final Path PAGE = Path.of("README.md");
    private static final Path TESTS = Path.of("src/test/java");
    private static final String MAKING = "Henselhall x = new Henselhall();";
    /** int name = x.call(takes);  // answer: why */
    private static final Pattern CALL = Pattern.compile("(?:\\w+ (\\w+) = )?x\\.(\\w+\\(.*\\)); +// ([^:]+)(?:: .*)?");

    private static final Map<String, String> NAMED = new HashMap<>();
    private static int calls;
    private static House house;

    public static void main(String[] args) throws Exception {
        List<String> lines = Files.readAllLines(PAGE);
        int start = lines.indexOf("```java");
        if (start < 0) {
            throw new AssertionError("no example in README.md");
        }
        for (int k = start + 1; !lines.get(k).equals("```"); k++) {
            readExample(lines.get(k));
        }
        Check.due("calls of the example", () -> calls > 20, true);
        names(String.join("\n", lines));
        Check.end();
    }

    private static void readExample(String line) {
        if (line.equals(MAKING)) {
            house = new House(House.MOST_CALLS);
        } else if (!line.isEmpty()) {
            ask(line);
        }
    }

    private static void ask(String line) {
        Matcher parts = CALL.matcher(line);
        if (house == null || !parts.matches()) {
            throw new AssertionError("README.md: no call with its answer, or no object: " + line);
        }
        String call = parts.group(2);
        for (Map.Entry<String, String> one : NAMED.entrySet()) {
            call = call.replaceAll("\\b" + one.getKey() + "\\b(?!\\()", one.getValue());
        }
        String answer = house.answer(call);
        Check.due("README.md: " + line + ": the class", () -> answer, parts.group(3).replace("throws ", "throws."));
        calls++;
        if (parts.group(1) != null) {
            NAMED.put(parts.group(1), answer);
        }
    }

    private static void names(String page) throws Exception {
        for (Method one : Henselhall.class.getDeclaredMethods()) {
            if (Modifier.isPublic(one.getModifiers())) {
                Check.due("README.md names " + one.getName(), () -> page.contains("`" + one.getName() + "`")
                    || page.contains("x." + one.getName() + "("), true);
            }
        }
        try (Stream<Path> files = Files.list(TESTS)) {
            for (Path file : files.toList()) {
                String name = file.getFileName().toString().replace(".java", "");
                Check.due("README.md names " + name, () -> !name.endsWith("Test") || page.contains("`" + name + "`"), true);
            }
        }
    }
}
