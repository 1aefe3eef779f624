import java.io.IOException;
import java.io.UncheckedIOException;
import java.nio.file.Files;
import java.nio.file.Path;
import java.util.LinkedHashMap;
import java.util.List;
import java.util.Map;

/** The document's own words, read from ../shared, so that a test can be named by what it holds. */
final class Document {
    private static final Path FILE = Path.of("..", "shared", "DOC.md");
    private static final String AHEAD = "Ahead of the calls ";

    private Document() {
    }

    static List<String> lines() {
        try {
            return Files.readAllLines(FILE);
        } catch (IOException e) {
            throw new UncheckedIOException(e);
        }
    }

    /** "Terms" and "Promise 1" to "Promise 29", each with its words on one line. */
    static Map<String, String> sections() {
        Map<String, StringBuilder> found = new LinkedHashMap<>();
        StringBuilder open = new StringBuilder();
        for (String line : lines()) {
            if (line.startsWith("## ")) {
                String name = line.substring(3).split(":")[0];
                open = new StringBuilder();
                if (name.equals("Terms") || name.startsWith("Promise ")) {
                    found.put(name, open);
                }
            } else if (!line.startsWith(AHEAD)) {
                open.append(withoutSignature(line)).append(' ');
            }
        }
        Map<String, String> sections = new LinkedHashMap<>();
        found.forEach((name, words) -> sections.put(name, words.toString().replaceAll("\\s+", " ").trim()));
        return sections;
    }

    /** The signature at the head of a promise is FaceTest's. */
    private static String withoutSignature(String line) {
        return line.matches("`[^`]*\\(.*\\)[^`]*`: .*") ? line.substring(line.indexOf("`: ") + 3) : line;
    }

    /** The lines "Ahead of the calls .. the interface says: ..", which FaceTest holds. */
    static List<String> headings() {
        return lines().stream().filter(line -> line.startsWith(AHEAD)).toList();
    }
}
