import java.io.IOException;
import java.nio.charset.StandardCharsets;
import java.nio.file.Files;
import java.nio.file.Path;
import java.util.ArrayList;
import java.util.LinkedHashMap;
import java.util.List;
import java.util.Map;

/** The sections of the document, each cut into sentences, so that tests can be held against its words. */
final class Document {
    private static final Path PATH = Path.of("../shared/DOC.md");

    /** The sentences of each section, by the section's title: "Description", "Promise 8", .. */
    private final Map<String, List<String>> sentences = new LinkedHashMap<>();
    private final StringBuilder paragraph = new StringBuilder();
    private List<String> current = new ArrayList<>();

    Document() {
        try {
            for (String line : Files.readAllLines(PATH, StandardCharsets.UTF_8)) {
                take(line.strip());
            }
        } catch (IOException e) {
            throw new IllegalStateException("cannot read " + PATH.toAbsolutePath(), e);
        }
        endParagraph();
    }

    private void take(String line) {
        if (line.isEmpty() || line.startsWith("- ") || line.startsWith("## ")) {
            endParagraph();
        }
        if (line.startsWith("## ")) {
            current = new ArrayList<>();
            sentences.put(line.substring(3).replaceAll("^(Promise \\d+):.*", "$1"), current);
        } else if (!line.isEmpty()) {
            paragraph.append(paragraph.length() == 0 ? "" : " ").append(line);
        }
    }

    /** A sentence ends behind a full stop or a semicolon, and where its paragraph ends. */
    private void endParagraph() {
        if (paragraph.length() > 0) {
            current.addAll(List.of(paragraph.toString().split("(?<=[.;]) (?=\\S)")));
            paragraph.setLength(0);
        }
    }

    Iterable<String> sections() {
        return sentences.keySet();
    }

    List<String> sentencesOf(String section) {
        return sentences.getOrDefault(section, List.of());
    }

    /** Whether the words stand within one sentence of the section, or run over several. */
    boolean says(String section, String words) {
        return String.join(" ", sentencesOf(section)).contains(words);
    }
}
