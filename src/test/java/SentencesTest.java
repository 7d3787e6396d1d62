import java.nio.file.Files;
import java.nio.file.Path;
import java.util.ArrayList;
import java.util.LinkedHashMap;
import java.util.List;
import java.util.Map;
import java.util.stream.Stream;

/**
 * Each sentence of the document that tells what the class does has runs of its own, in src/test/sentences (the form of
 * these files is told in README.md). Of each call that is refused it is seen that it changed nothing.
 */
final class SentencesTest {
    private static final Path DOCUMENT = Path.of("../shared/DOC.md");
    private static final Path RUNS = Path.of("src/test/sentences");
    /** Each sentence, behind the title of its part, with how many answers were tested for it. */
    private static final Map<String, Integer> SENTENCES = new LinkedHashMap<>();
    private static int refused;

    private String title = "";
    private String sentence;
    private String place = "";
    private House house;
    private final List<String> calls = new ArrayList<>();

    public static void main(String[] args) throws Exception {
        readDocument();
        List<Path> files;
        try (Stream<Path> all = Files.list(RUNS)) {
            files = all.sorted().toList();
        }
        for (Path file : files) {
            new SentencesTest().read(file);
        }
        for (Map.Entry<String, Integer> one : SENTENCES.entrySet()) {
            Check.due("is tested: " + one.getKey(), () -> one.getValue() > 0, true);
        }
        System.out.println(SENTENCES.size() + " sentences, " + refused + " refused calls that changed nothing");
        Check.end();
    }

    private static void readDocument() throws Exception {
        String title = "";
        for (String line : Files.readAllLines(DOCUMENT)) {
            if (line.startsWith("## ")) {
                title = line.substring(3);
            } else if (title.equals("Terms") && !line.startsWith("Ahead of the calls")) {
                for (String one : line.split("(?<=[^.])\\. (?=[A-Z])")) {
                    addSentence(title, one.endsWith(".") ? one.substring(0, one.length() - 1) : one);
                }
            } else if (title.startsWith("Promise ")) {
                addSentence(title, line.replaceFirst("^`[^`]*`: ", ""));
            } else if (line.startsWith("An object is used")) {
                addSentence(title, line);
            }
        }
        Check.due("sentences of the document", () -> SENTENCES.size() > 240, true);
    }

    private static void addSentence(String title, String words) {
        boolean heading = !words.contains(" ") || words.equals("Fractions guessed back");
        if (!heading) {
            SENTENCES.put(title + " > " + words, 0);
        }
    }

    private void read(Path file) throws Exception {
        int number = 0;
        for (String line : Files.readAllLines(file)) {
            number++;
            place = file.getFileName() + ", line " + number;
            readLine(line.trim());
        }
    }

    private void readLine(String line) {
        if (line.startsWith("## ")) {
            title = line.substring(3);
            sentence = null;
        } else if (line.startsWith("> ")) {
            sentence = title + " > " + line.substring(2);
            house = null;
            Check.due(place + ": a sentence of the document", () -> SENTENCES.containsKey(sentence), true);
        } else if (line.equals("new") || line.startsWith("near ")) {
            house = new House(House.MOST_CALLS);
            calls.clear();
            if (line.startsWith("near ")) {
                make("setPrime(" + line.substring(5) + ")");
            }
        } else if (!line.isEmpty() && !line.startsWith("#")) {
            readCall(line);
        }
    }

    private void readCall(String line) {
        if (house == null || sentence == null) {
            throw new AssertionError(place + ": no house, or no sentence");
        }
        int arrow = line.indexOf(" -> ");
        if (arrow >= 0) {
            ask(line.substring(0, arrow).trim(), line.substring(arrow + 4).trim());
            return;
        }
        int times = line.indexOf(" times ");
        String call = times < 0 ? line : line.substring(times + 7);
        for (int k = times < 0 ? 1 : Integer.parseInt(line.substring(0, times)); k > 0; k--) {
            make(call);
        }
    }

    /** A call on the way, whose answer is tested elsewhere, but which must not be refused. */
    private void make(String call) {
        calls.add(call);
        House used = house;
        String answer = used.answer(call);
        Check.due(place + ": " + call + " is not refused, answering " + answer, () -> answer.startsWith("throws"), false);
    }

    private void ask(String call, String due) {
        House used = house;
        String answer = used.answer(call);
        Check.due(place + ": " + sentence + ": " + call, () -> answer, due);
        SENTENCES.merge(sentence, 1, Integer::sum);
        if (call.startsWith("told")) {
            return;
        }
        if (!answer.startsWith("throws")) {
            calls.add(call);
        } else {
            refused++;
            Check.due(place + ": a change by " + call, () -> difference(seenAfter(call), seenAfter(null)), "none");
        }
    }

    private static String difference(String one, String other) {
        String[] lines = one.split("\n");
        String[] others = other.split("\n");
        for (int k = 0; k < Math.min(lines.length, others.length); k++) {
            if (!lines[k].equals(others[k])) {
                return lines[k] + ", without it " + others[k];
            }
        }
        return lines.length == others.length ? "none" : "more or fewer answers";
    }

    /** What is seen of a house of its own after the calls before, and after the refused one if it is not null. */
    private String seenAfter(String refusedCall) {
        House other = new House(House.MOST_CALLS - (refusedCall == null ? 1 : 0));
        for (String call : calls) {
            other.answer(call);
        }
        if (refusedCall != null) {
            other.answer(refusedCall);
        }
        return other.seen();
    }
}
