import java.io.IOException;
import java.nio.file.Files;
import java.nio.file.Path;
import java.util.ArrayList;
import java.util.List;
import java.util.Map;
import java.util.TreeMap;
import java.util.regex.Matcher;
import java.util.regex.Pattern;
import java.util.stream.Stream;

/** Each word of the document stands in a sentence, or a piece of one, that some Edge test names. */
final class SentenceTest {
    private static final Check check = new Check("SentenceTest");
    /** What no answer can break: what is left free, and the unit, which no call asks. */
    private static final Map<String, List<String>> UNTESTED = Map.of(
            "Terms", List.of("Times are in thousandths."),
            "What it is", List.of("what later calls answer is free."),
            "Not promised", List.of("How the state is held inside the object is free, as are the speed of each call, the text of "
                    + "toString and the behaviour of equals and hashCode.",
                    "Use of one object from several threads at once is not promised to be safe.",
                    "and nothing about an object after its 512th call."));
    /** EdgeWholeTest takes this part's lines from the document itself. */
    private static final String FACE = "The public face";
    private static final Pattern SAYS = Pattern.compile("says\\(\"([^\"]+)\",(.*?)\\);\n", Pattern.DOTALL);
    private static final Pattern TEXT = Pattern.compile("\"([^\"]+)\"");

    public static void main(String[] args) throws IOException {
        Map<String, List<String>> quotes = quotes();
        UNTESTED.forEach((part, free) -> quotes.computeIfAbsent(part, p -> new ArrayList<>()).addAll(free));
        for (String part : Document.parts().keySet()) {
            if (!part.equals(FACE)) {
                everyWord(part, quotes.getOrDefault(part, List.of()));
            }
        }
        if (Document.isHere()) {
            check.due("the document's parts", Document.parts().size(), 3 + 5 + 31);
        }
        check.close();
    }

    private static void everyWord(String part, List<String> quotes) {
        char[] left = Document.text(part).toCharArray();
        for (String quote : quotes) {
            int at = Document.text(part).indexOf(quote);
            check.due(part + " says \"" + quote + "\"", at >= 0, true);
            while (at >= 0) {
                java.util.Arrays.fill(left, at, at + quote.length(), '\0');
                at = Document.text(part).indexOf(quote, at + 1);
            }
        }
        for (String piece : new String(left).split("\0+")) {
            check.due(part + ", \"" + piece + "\" has a test", piece.matches("[^A-Za-z0-9=]*"), true);
        }
    }

    private static Map<String, List<String>> quotes() throws IOException {
        Map<String, List<String>> quotes = new TreeMap<>();
        if (!Document.isHere()) {
            return quotes;
        }
        try (Stream<Path> files = Files.list(Path.of("src/test/java"))) {
            for (Path file : files.filter(f -> f.getFileName().toString().matches("Edge.*Test\\.java")).toList()) {
                Matcher says = SAYS.matcher(Files.readString(file));
                while (says.find()) {
                    Matcher text = TEXT.matcher(says.group(2));
                    while (text.find()) {
                        quotes.computeIfAbsent(says.group(1), part -> new ArrayList<>()).add(text.group(1));
                    }
                }
            }
        }
        return quotes;
    }
}
