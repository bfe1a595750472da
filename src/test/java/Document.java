import java.io.IOException;
import java.nio.file.Files;
import java.nio.file.Path;
import java.util.ArrayList;
import java.util.LinkedHashMap;
import java.util.List;
import java.util.Map;

/**
 * The sentences of ../shared/DOC.md by heading, so that a test can name the one that it holds to.
 * A row of parameters is a sentence, and so is each part of a "Returns" sentence between
 * semicolons. White space is made one blank, and the dot at the end is left out. The examples and
 * the text before the first heading are left out as well.
 */
final class Document {
    private final Map<String, List<String>> sections = new LinkedHashMap<>();

    Document(Path path) throws IOException {
        List<String> section = new ArrayList<>();
        boolean inCode = false;
        for (String line : Files.readAllLines(path)) {
            if (line.startsWith("```")) {
                inCode = !inCode;
            } else if (line.startsWith("## ")) {
                section = new ArrayList<>();
                sections.put(line.substring(3).split(":")[0].trim(), section);
            } else if (!inCode) {
                addSentences(section, line.trim().replaceAll("\\s+", " "));
            }
        }
    }

    private static void addSentences(List<String> section, String line) {
        boolean signature = line.startsWith("`") && line.endsWith("`");
        // ExamplesTest runs the examples.
        boolean example = line.startsWith("Examples:") || line.matches("[0-9]\\. .*");
        if (line.isEmpty() || signature || example || line.startsWith("----")) {
            return;
        }
        if (line.startsWith("- ")) {
            section.add(withoutDot(line.substring(2)));
            return;
        }
        for (String sentence : line.split("(?<=\\.) ")) {
            String[] parts = sentence.startsWith("Returns ")
                    ? sentence.split(";") : new String[] {sentence};
            for (String part : parts) {
                section.add(withoutDot(part.trim()));
            }
        }
    }

    private static String withoutDot(String sentence) {
        return sentence.endsWith(".") ? sentence.substring(0, sentence.length() - 1) : sentence;
    }

    /** The sentences under "Promise 3", "Description" and so on; none if there is no such heading. */
    List<String> sentences(String heading) {
        return sections.getOrDefault(heading, List.of());
    }
}
