import java.nio.file.Files;
import java.nio.file.Path;
import java.util.ArrayList;
import java.util.LinkedHashMap;
import java.util.List;
import java.util.Map;

/** The sentences of the document's terms and promises, and which of them a test was named for. */
final class Document {
    private final Map<String, List<String>> sentences = new LinkedHashMap<>();
    private final Map<String, List<String>> untested = new LinkedHashMap<>();

    Document(Path file) throws Exception {
        for (String section : Files.readString(file).split("(?m)^## ")) {
            String[] parts = section.split("\n", 2);
            if (parts[0].equals("Terms") || parts[0].startsWith("Promise ")) {
                String heading = parts[0].split(":")[0];
                sentences.put(heading, sentencesOf(parts[1]));
                untested.put(heading, sentencesOf(parts[1]));
            }
        }
    }

    private static List<String> sentencesOf(String section) {
        List<String> found = new ArrayList<>();
        for (String part : section.strip().split("\n\\s*\n|\n(?=- )")) {
            // A parameter's row begins with a dash, a promise's first sentence with the method that it is of.
            String text = part.strip().replaceAll("\\s+", " ").replaceAll("^- |^`[^`]*\\([^`]*`: ", "");
            for (String sentence : text.split("(?<=\\.) (?=[A-Z])")) {
                if (sentence.indexOf(' ') >= 0) {
                    found.add(sentence);
                }
            }
        }
        return found;
    }

    boolean says(String heading, String sentence) {
        return sentences.getOrDefault(heading, List.of()).contains(sentence);
    }

    void markTested(String heading, String sentence) {
        untested.getOrDefault(heading, new ArrayList<>()).removeIf(sentence::equals);
    }

    List<String> untested() {
        List<String> all = new ArrayList<>();
        untested.forEach((heading, left) -> left.forEach(sentence -> all.add(heading + ": " + sentence)));
        return all;
    }

    int size() {
        return sentences.values().stream().mapToInt(List::size).sum();
    }
}
