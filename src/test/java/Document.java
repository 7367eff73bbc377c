import java.io.IOException;
import java.nio.file.Files;
import java.nio.file.Path;
import java.util.ArrayList;
import java.util.List;
import java.util.Map;
import java.util.TreeMap;

/**
 * The document's parts as running text: "What it is", "The public face", "Terms", "Terms 1" to "Terms 4",
 * "Promise 1" to "Promise 31" and "Not promised".
 */
final class Document {
    private static final Path PLACE = Path.of("../shared/DOC.md");
    private static final Map<String, String> PARTS = read();

    private Document() {
    }

    static boolean isHere() {
        return !PARTS.isEmpty();
    }

    static Map<String, String> parts() {
        return PARTS;
    }

    static boolean says(String part, String sentence) {
        return PARTS.getOrDefault(part, "").contains(sentence);
    }

    static String text(String part) {
        return PARTS.getOrDefault(part, "");
    }

    private static Map<String, String> read() {
        Map<String, String> parts = new TreeMap<>();
        if (!Files.isReadable(PLACE)) {
            return parts;
        }
        String part = "";
        for (String line : lines()) {
            if (line.startsWith("## ")) {
                part = line.substring(3).replaceAll(":.*", "");
            } else if (line.startsWith("==== ")) {
                part = "Terms " + line.charAt(5);
                add(parts, part, line.substring(8));
            } else if (line.startsWith("`") && line.contains("`: ")) {
                add(parts, part, line.substring(line.indexOf("`: ") + 3));
            } else if (!line.startsWith("```")) {
                add(parts, part, line);
            }
        }
        parts.keySet().removeIf(String::isEmpty);
        return parts;
    }

    private static void add(Map<String, String> parts, String part, String line) {
        String bare = line.replaceAll("\\s+", " ").trim();
        if (!bare.isEmpty()) {
            parts.merge(part, bare, (had, more) -> had + " " + more);
        }
    }

    private static List<String> lines() {
        try {
            return new ArrayList<>(Files.readAllLines(PLACE));
        } catch (IOException e) {
            return new ArrayList<>();
        }
    }
}
