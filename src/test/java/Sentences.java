import java.util.Arrays;
import java.util.LinkedHashMap;
import java.util.Map;
import java.util.function.Consumer;

/**
 * Runs tests, each under the words of the document that it holds. Words that are not in the document
 * are a fault, and so are words of the document that no test has named.
 */
final class Sentences {
    private final Check check = new Check("SentencesTest");
    private final Map<String, String> sections = Document.sections();
    private final Map<String, boolean[]> named = new LinkedHashMap<>();
    private String section = "";
    private int tests;

    Sentences() {
        sections.forEach((name, words) -> named.put(name, new boolean[words.length()]));
    }

    /** The section in which the next words stand. */
    void section(String name) {
        section = name;
    }

    void says(String words, Consumer<Check> test) {
        check.about(section + ", \"" + words + "\"");
        name(words);
        tests++;
        try {
            test.accept(check);
        } catch (RuntimeException thrown) {
            check.tell("the test ended by " + thrown);
        }
    }

    private void name(String words) {
        String text = sections.getOrDefault(section, "");
        int from = text.indexOf(words);
        if (from < 0 || text.indexOf(words, from + 1) >= 0) {
            check.tell("these words do not stand in the document exactly once");
            return;
        }
        Arrays.fill(named.get(section), from, from + words.length(), true);
    }

    void finish() {
        sections.forEach(this::tellUnnamed);
        System.out.println("SentencesTest: " + tests + " tests, each of some words of the document");
        check.finish();
    }

    private void tellUnnamed(String name, String text) {
        StringBuilder rest = new StringBuilder();
        for (int i = 0; i < text.length(); i++) {
            rest.append(named.get(name)[i] ? '|' : text.charAt(i));
        }
        for (String words : rest.toString().split("\\|+")) {
            if (words.matches(".*[A-Za-z].*")) {
                check.about(name);
                check.tell("no test names \"" + words.trim() + "\"");
            }
        }
    }
}
