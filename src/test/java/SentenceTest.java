import java.io.IOException;
import java.nio.file.Files;
import java.nio.file.Path;
import java.util.ArrayList;
import java.util.List;
import java.util.Map;
import java.util.Set;
import java.util.TreeMap;
import java.util.regex.Matcher;
import java.util.regex.Pattern;
import java.util.stream.Stream;

/** Each sentence of the document's terms and promises is named by some Edge test. */
final class SentenceTest {
    private static final Check check = new Check("SentenceTest");
    /** What no answer can break. */
    private static final Set<String> UNTESTED = Set.of("Times are in thousandths.");
    private static final Pattern SAYS = Pattern.compile("says\\(\"([^\"]+)\",(.*?)\\);\n", Pattern.DOTALL);
    private static final Pattern TEXT = Pattern.compile("\"([^\"]+)\"");

    public static void main(String[] args) throws IOException {
        Map<String, List<String>> quotes = quotes();
        for (String part : Document.parts().keySet()) {
            for (String sentence : Document.sentences(part)) {
                boolean named = quotes.getOrDefault(part, List.of()).stream()
                        .anyMatch(quote -> sentence.contains(quote) || quote.contains(sentence));
                check.due(part + ", \"" + sentence + "\" has a test", named || UNTESTED.contains(sentence), true);
            }
        }
        if (Document.isHere()) {
            check.due("the document's parts", Document.parts().size(), 5 + 31);
        }
        check.close();
    }

    private static Map<String, List<String>> quotes() throws IOException {
        Map<String, List<String>> quotes = new TreeMap<>();
        try (Stream<Path> files = Files.list(Path.of("src/test/java"))) {
            for (Path file : files.filter(f -> f.getFileName().toString().matches("Edge.*Test\\.java")).toList()) {
                Matcher says = SAYS.matcher(Files.readString(file));
                while (says.find()) {
                    Matcher text = TEXT.matcher(says.group(2));
                    while (text.find()) {
                        quotes.computeIfAbsent(says.group(1), part -> new ArrayList<>()).add(text.group(1));
                    }
                }
            }
        }
        return quotes;
    }
}
