import java.io.IOException;
import java.nio.file.Files;
import java.nio.file.Path;
import java.util.ArrayList;
import java.util.LinkedHashMap;
import java.util.List;
import java.util.Map;

/** The document's sections and promises, without backticks and line ends. */
final class Doc {
    /** By "Section 3" or "Promise 7" all that stands there. */
    private final Map<String, String> parts = new LinkedHashMap<>();
    /** By the same names the lines of which each needs a test of its own. */
    private final Map<String, List<String>> needed = new LinkedHashMap<>();

    Doc() throws IOException {
        String part = "";
        for (String raw : Files.readAllLines(Path.of("../shared/DOC.md"))) {
            String line = raw.replace("`", "").trim();
            part = partBegunBy(line, part);
            parts.merge(part, line, (before, more) -> before + " " + more);
            if (part.startsWith("Promise") && needsATest(line)) {
                needed.computeIfAbsent(part, key -> new ArrayList<>()).add(plain(line));
            }
        }
    }

    private static String partBegunBy(String line, String before) {
        if (line.matches("[1-8]\\. [A-Z ]+")) {
            return "Section " + line.charAt(0);
        }
        if (line.startsWith("## ")) {
            return line.substring(3).replaceAll(":.*", "");
        }
        return line.startsWith("Examples ") ? "Examples" : before;
    }

    /** What a call returns, what it throws, and the parameters whose range is told. */
    private static boolean needsATest(String line) {
        return line.matches("(Returns|Throws) .*") || line.matches("- .*\\d.*");
    }

    /** A sentence without what differs only by its way of writing. */
    static String plain(String sentence) {
        return sentence.replaceAll("\\s+", " ").trim();
    }

    boolean says(String part, String sentence) {
        return parts.containsKey(part) && plain(parts.get(part)).contains(plain(sentence));
    }

    List<String> needed(String part) {
        return needed.getOrDefault(part, List.of());
    }
}
