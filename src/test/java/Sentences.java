import java.io.IOException;
import java.nio.file.Files;
import java.nio.file.Path;
import java.util.BitSet;
import java.util.LinkedHashMap;
import java.util.Map;

/**
 * Tests under the sentences of the document: a sentence is quoted word for word ahead of what it is tested by, and at
 * the end every word of the promises must have been quoted, so that no sentence is without a test of its own.
 */
final class Sentences {
    private static final Path DOCUMENT = Path.of("../shared/DOC.md");

    private final Check check = new Check();
    private final Map<String, String> sections = new LinkedHashMap<>();
    private final Map<String, BitSet> quoted = new LinkedHashMap<>();
    private String section = "";
    private String sentence = "";
    private int duesOfSentence = 1;

    Sentences() throws IOException {
        if (!Files.isReadable(DOCUMENT)) {
            System.out.println("no " + DOCUMENT + ": quotes are not looked up");
            return;
        }
        String name = "";
        for (String line : Files.readAllLines(DOCUMENT)) {
            if (line.startsWith("## ")) {
                name = line.substring(3).replaceAll("^(Promise \\d+):.*", "$1");
                sections.put(name, "");
                quoted.put(name, new BitSet());
            } else if (!name.isEmpty() && !line.startsWith("```") && !line.startsWith("Ahead of the calls")) {
                String plain = line.replaceAll("^`[^`]*`: ", "").replaceAll("\\s+", " ").trim();
                sections.put(name, sections.get(name) + plain + " ");
            }
        }
    }

    void in(String newSection) {
        endSentence();
        section = newSection;
        if (!sections.isEmpty()) {
            check.holds("the document has a section " + section, sections.containsKey(section));
        }
    }

    /** What comes next is due by this sentence of the section. */
    void says(String newSentence) {
        endSentence();
        sentence = newSentence;
        duesOfSentence = 0;
        quote();
    }

    /** A sentence that tells a word, not what a call answers. */
    void tells(String newSentence) {
        endSentence();
        sentence = newSentence;
        quote();
    }

    private void quote() {
        if (!sections.containsKey(section)) {
            return;
        }
        String text = sections.get(section);
        int at = text.indexOf(sentence);
        check.holds("\"" + sentence + "\" stands in " + section, at >= 0);
        if (at >= 0) {
            quoted.get(section).set(at, at + sentence.length());
        }
    }

    private void endSentence() {
        check.holds("\"" + sentence + "\" in " + section + " has a test", duesOfSentence > 0);
        duesOfSentence = 1;
    }

    void due(String call, int got, int want) {
        duesOfSentence++;
        check.due(section + ", \"" + sentence + "\": " + call, got, want);
    }

    void end() {
        endSentence();
        for (Map.Entry<String, String> e : sections.entrySet()) {
            if (e.getKey().equals("Terms") || e.getKey().startsWith("Promise ")) {
                String left = unquoted(e.getValue(), quoted.get(e.getKey()));
                check.holds(e.getKey() + " is quoted whole, but for: " + left, left.isEmpty());
            }
        }
        check.end();
    }

    private static String unquoted(String text, BitSet marks) {
        StringBuilder left = new StringBuilder();
        for (int i = 0; i < text.length(); i++) {
            left.append(marks.get(i) || "=.,;:".indexOf(text.charAt(i)) >= 0 ? ' ' : text.charAt(i));
        }
        return left.toString().trim().replaceAll("\\s+", " ");
    }
}
