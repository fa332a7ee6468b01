import java.io.IOException;
import java.nio.file.Files;
import java.nio.file.Path;
import java.util.Arrays;
import java.util.LinkedHashMap;
import java.util.Map;

/** The parts of the document, and how much of each has been quoted. */
final class Document {
    private final Map<String, String> parts = new LinkedHashMap<>();
    private final Map<String, boolean[]> quoted = new LinkedHashMap<>();

    Document(Path file) throws IOException {
        String part = "";
        for (String line : Files.readAllLines(file)) {
            part = partOf(line, part);
            if (!line.startsWith("#") && !line.startsWith("```") && !part.isEmpty()) {
                parts.merge(part, line, (a, b) -> a + " " + b);
            }
        }
        parts.replaceAll((name, text) -> text.replaceAll("==== \\d\\.", "").replaceAll("`[^`]*`:", "")
            .replaceAll("\\s+", " ").trim());
        parts.forEach((name, text) -> quoted.put(name, new boolean[text.length()]));
    }

    private static String partOf(String line, String before) {
        if (line.startsWith("==== ")) {
            return "Terms " + line.charAt(5);
        }
        if (line.startsWith("## Promise ")) {
            return line.substring(3, line.indexOf(':'));
        }
        if (line.startsWith("## What it is")) {
            return "What it is";
        }
        boolean other = line.startsWith("#") || line.startsWith("The constants") || line.startsWith("Ahead of the calls");
        return other ? "" : before;
    }

    /** Where the words stand in a part; below 0, if not there, or more than once. */
    int place(String part, String words) {
        String text = parts.getOrDefault(part, "");
        int at = text.indexOf(words);
        return at >= 0 && text.indexOf(words, at + 1) >= 0 ? -2 : at;
    }

    /** Which of the parts a part is, from 0 on. */
    int order(String part) {
        return Arrays.asList(parts.keySet().toArray()).indexOf(part);
    }

    void quote(String part, String words) {
        int at = place(part, words);
        for (int i = at; at >= 0 && i < at + words.length(); i++) {
            quoted.get(part)[i] = true;
        }
    }

    /** What of the TERMS and promises nobody has quoted, but for blanks and signs: part by part. */
    Map<String, String> unquoted() {
        Map<String, String> found = new LinkedHashMap<>();
        for (Map.Entry<String, String> part : parts.entrySet()) {
            StringBuilder rest = new StringBuilder();
            for (int i = 0; i < part.getValue().length(); i++) {
                rest.append(quoted.get(part.getKey())[i] ? '_' : part.getValue().charAt(i));
            }
            boolean all = rest.chars().noneMatch(Character::isLetterOrDigit);
            if (!all && !part.getKey().equals("What it is")) {
                found.put(part.getKey(), rest.toString().replaceAll("_+", "_"));
            }
        }
        return found;
    }
}
