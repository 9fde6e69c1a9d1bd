import java.io.IOException;
import java.nio.charset.StandardCharsets;
import java.nio.file.Files;
import java.nio.file.Path;
import java.util.LinkedHashMap;
import java.util.List;
import java.util.Map;

/**
 * The sentences of the document by their sections, and which of them have a test. Every sentence, or part of one, is
 * either tested or said to name no boundary case; one that is neither makes close() fail, and so does a test of a
 * sentence that is not in the document.
 */
final class Sentences {
    private final Map<String, String> left = new LinkedHashMap<>();

    Sentences(String document) {
        String section = "";
        boolean inCode = false;
        for (String line : lines(document)) {
            String heading = inCode ? "" : headingOf(line);
            boolean isFence = line.startsWith("```");
            inCode ^= isFence;
            section = heading.isEmpty() ? section : heading;
            if (heading.isEmpty() && !inCode && !isFence && isProse(line)) {
                left.merge(section, line.strip(), (before, more) -> before + " " + more);
            }
        }
        left.replaceAll((name, text) -> text.replaceAll("\\s+", " ").strip());
        left.values().removeIf(String::isEmpty);
    }

    /** Reads a file by its lines; there is none if it cannot be read. */
    static List<String> lines(String file) {
        try {
            return Files.readAllLines(Path.of(file), StandardCharsets.UTF_8);
        } catch (IOException e) {
            Check.tell(file + " cannot be read: " + e);
            return List.of();
        }
    }

    /** Returns the name of the section that begins with a line, and nothing if none does. */
    private static String headingOf(String line) {
        if (line.startsWith("#")) {
            return line.replaceAll("^#+ |:.*", "");
        }
        return line.matches("[A-Z ]+") ? line : "";
    }

    /** Tells whether a line is neither a signature nor the mark of a group of methods. */
    private static boolean isProse(String line) {
        return !line.startsWith("----") && !line.matches("`[^`]*`");
    }

    /** Runs the test of a sentence. */
    void test(String section, String sentence, Runnable test) {
        Check.run(section + ": " + sentence, () -> {
            take(section, sentence);
            test.run();
        });
    }

    /** Says that a sentence names no boundary case, but only what the tests of others compare anyway. */
    void plain(String section, String sentence) {
        Check.run(section + ": " + sentence, () -> take(section, sentence));
    }

    private void take(String section, String sentence) {
        String text = left.getOrDefault(section, "");
        int place = text.indexOf(sentence);
        if (place < 0) {
            Check.tell("the document does not say this in " + section + ": " + sentence);
            return;
        }
        // a bar keeps what stood before and behind from being taken for one sentence
        left.put(section, text.substring(0, place) + "|" + text.substring(place + sentence.length()));
    }

    void close() {
        Check.run("every sentence of the document has a test", () -> {
            Check.due("sections", left.size(), 28);
            left.forEach((section, text) -> {
                if (!text.matches("[-| ]*")) {
                    Check.tell("in " + section + " there is no test of: " + text);
                }
            });
        });
    }
}
