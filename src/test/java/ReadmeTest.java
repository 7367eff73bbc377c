import java.lang.reflect.Method;
import java.lang.reflect.Modifier;
import java.nio.file.Files;
import java.nio.file.Path;
import java.util.List;
import java.util.Set;
import java.util.TreeSet;
import java.util.regex.Matcher;
import java.util.regex.Pattern;
import java.util.stream.Collectors;
import java.util.stream.Stream;

/** What README.md's examples say is what the class answers; each call has an example, each test is told. */
final class ReadmeTest {
    private static final Check check = new Check("ReadmeTest");
    private static final Pattern CALL = Pattern.compile("square\\.(\\w+)\\(([^()]*)\\); +// (-?[0-9]+|true|false)(:.*)?");
    private static final Set<String> used = new TreeSet<>();

    public static void main(String[] args) throws Exception {
        String text = Files.readString(Path.of("README.md"));
        Matcher blocks = Pattern.compile("```java\n(.*?)```", Pattern.DOTALL).matcher(text);
        int count = 0;
        while (blocks.find()) {
            count++;
            run(blocks.group(1).split("\n"));
        }
        check.due("there are examples", count > 0, true);
        for (Method m : BangSquare.class.getDeclaredMethods()) {
            if (Modifier.isPublic(m.getModifiers())) {
                check.due(m.getName() + " has an example", used.contains(m.getName()), true);
            }
        }
        tests(text);
        check.due("the way to run the tests is told", text.contains("\n    .ci/run\n"), true);
        check.due("and it can be run", Files.isExecutable(Path.of(".ci/run")), true);
        check.close();
    }

    private static void run(String[] lines) throws Exception {
        BangSquare square = null;
        for (String line : lines) {
            Matcher call = CALL.matcher(line);
            if (line.equals("BangSquare square = new BangSquare();")) {
                square = new BangSquare();
            } else if (call.matches() && square != null) {
                ask(square, line, call);
            } else {
                check.due("a line of an example can be read: " + line, false, true);
            }
        }
    }

    private static void ask(BangSquare square, String line, Matcher call) throws Exception {
        String[] given = call.group(2).split(", ");
        for (Method m : BangSquare.class.getDeclaredMethods()) {
            if (m.getName().equals(call.group(1)) && m.getParameterCount() == given.length && Modifier.isPublic(m.getModifiers())) {
                Object[] values = new Object[given.length];
                for (int i = 0; i < given.length; i++) {
                    values[i] = value(given[i]);
                }
                String answer = String.valueOf(m.invoke(square, values));
                check.due(line.trim() + " answers " + answer, answer.equals(call.group(3)), true);
                used.add(m.getName());
                return;
            }
        }
        check.due("is a call: " + line, false, true);
    }

    private static Object value(String given) {
        if (given.equals("true") || given.equals("false")) {
            return Boolean.valueOf(given);
        }
        return given.equals("BangSquare.NONE") ? Integer.valueOf(BangSquare.NONE) : Integer.decode(given);
    }

    private static void tests(String text) throws Exception {
        Set<String> told = new TreeSet<>();
        Matcher names = Pattern.compile("`(\\w+Test)`").matcher(text);
        while (names.find()) {
            told.add(names.group(1));
        }
        List<String> found;
        try (Stream<Path> files = Files.list(Path.of("src/test/java"))) {
            found = files.map(f -> f.getFileName().toString()).filter(f -> f.endsWith("Test.java"))
                    .map(f -> f.replace(".java", "")).collect(Collectors.toList());
        }
        for (String name : found) {
            check.due(name + " is told", told.contains(name), true);
        }
        for (String name : told) {
            check.due(name + " is there", found.contains(name), true);
        }
    }
}
