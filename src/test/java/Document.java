import java.io.IOException;
import java.nio.file.Files;
import java.nio.file.Path;
import java.util.ArrayList;
import java.util.LinkedHashMap;
import java.util.List;
import java.util.Map;

/** The sections of the document, each as one line of words. */
final class Document {
    private static final Path PLACE = Path.of("../shared/DOC.md");

    private final Map<String, StringBuilder> sections = new LinkedHashMap<>();

    private Document(List<String> lines) {
        StringBuilder section = new StringBuilder();
        for (String line : lines) {
            if (line.startsWith("#")) {
                section = new StringBuilder();
                sections.put(line.replaceAll("^#+ *|:.*", ""), section);
            } else if (isPromise(line)) {
                // A signature is not said of any call: LanguageTests looks at the face.
                section.append(line.replaceAll("^`[^`]*\\(.*?\\)`: ", "")).append(' ');
            }
        }
    }

    /** The headings of the interface stand in the document too, but promise nothing. */
    private static boolean isPromise(String line) {
        return !line.startsWith("```") && !line.startsWith("Ahead of the calls");
    }

    static boolean isThere() {
        return Files.isReadable(PLACE);
    }

    static Document read() throws IOException {
        return new Document(Files.readAllLines(PLACE));
    }

    private String text(String section) {
        StringBuilder text = sections.get(section);
        return text == null ? "" : text.toString().replaceAll("\\s+", " ");
    }

    boolean says(String section, String words) {
        return text(section).contains(words);
    }

    /** Returns what stands in a section and in none of the quotes. */
    List<String> unquoted(String section, List<String> quotes) {
        StringBuilder rest = new StringBuilder(text(section));
        for (String quote : quotes) {
            for (int at = text(section).indexOf(quote); at >= 0; at = text(section).indexOf(quote, at + 1)) {
                for (int i = at; i < at + quote.length(); i++) {
                    rest.setCharAt(i, '\n');
                }
            }
        }
        List<String> unquoted = new ArrayList<>();
        for (String words : rest.toString().split("\n+")) {
            if (words.matches(".*\\w.*")) {
                unquoted.add(words.strip());
            }
        }
        return unquoted;
    }
}
