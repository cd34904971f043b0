import java.io.IOException;
import java.io.UncheckedIOException;
import java.nio.file.Files;
import java.nio.file.Path;
import java.util.ArrayList;
import java.util.LinkedHashMap;
import java.util.List;
import java.util.Map;

/** The document, cut into "part0" (what stands ahead of part 1), "part1" to "part6", "promise1" to "promise28". */
final class Document {
    private final Map<String, String> sections = new LinkedHashMap<>();

    Document() {
        String text = read();
        cutParts(text.substring(text.indexOf("## Description") + 14, text.indexOf("The constructor and the methods follow")));
        cutPromises(text.substring(text.indexOf("## Promise 1:"), text.indexOf("## Not promised")));
    }

    private static String read() {
        Path project = Path.of(System.getProperty("project", "."));
        try {
            return Files.readString(project.resolve("../shared/DOC.md"));
        } catch (IOException thrown) {
            throw new UncheckedIOException(thrown);
        }
    }

    private void cutParts(String description) {
        String[] parts = description.split("== \\d\\. [^\n]*\n");
        for (int k = 0; k < parts.length; k++) {
            sections.put("part" + k, onOneLine(parts[k]));
        }
    }

    private void cutPromises(String promises) {
        for (String promise : promises.split("(?m)^## Promise ")) {
            if (!promise.isBlank()) {
                sections.put("promise" + promise.substring(0, promise.indexOf(':')), promise);
            }
        }
    }

    static String onOneLine(String text) {
        return text.strip().replaceAll("\\s+", " ");
    }

    Map<String, String> sections() {
        return sections;
    }

    boolean holds(String section, String sentence) {
        return onOneLine(sections.getOrDefault(section, "")).contains(sentence);
    }

    /** The lines of a promise that begin so. */
    List<String> lines(String promise, String begin) {
        List<String> lines = new ArrayList<>();
        for (String line : sections.get(promise).split("\n")) {
            if (line.startsWith(begin)) {
                lines.add(line.strip());
            }
        }
        return lines;
    }
}
