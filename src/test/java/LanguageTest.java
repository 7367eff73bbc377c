import java.lang.reflect.Field;
import java.lang.reflect.Method;
import java.lang.reflect.Modifier;
import java.nio.file.Files;
import java.nio.file.Path;
import java.util.ArrayList;
import java.util.Arrays;
import java.util.List;
import java.util.Set;
import java.util.TreeSet;
import java.util.regex.Matcher;
import java.util.regex.Pattern;

/** The document's face, and the rules of LANGUAGE.md that can be seen in the source or by reflection. */
final class LanguageTest {
    private static final Check check = new Check("LanguageTest");
    private static final String SOURCE = "src/main/java/BangSquare.java";
    private static final Set<String> FACE = Set.of(
            "boolean set(int,int)", "int comes(int,int,int)", "int wall(boolean,int,int,int,int)", "boolean spot(int,int)",
            "int shot(int,int,int,int)", "int gets(int,int,int)", "int feed(int,int,int,int,int)", "boolean end(int)",
            "int text(int)", "int fault(int)", "int hearer(int,int)", "int turning(int,int,int)", "boolean story(int,int)",
            "int stories(int,int)", "int ear(int)", "boolean got(int,int,int)", "int from(int)", "int click(int,int)",
            "int fits(int,int,int,int)", "int couple(int,int)", "int must(int,int,int)", "int voice(int,int,int,int)",
            "int over(int,int)", "int noise(int,int,int,int)", "int noises(int)", "boolean ball(int,int)",
            "int trials(int)", "int apart(int,int)", "int roofs(int,int)", "int look(int)");

    public static void main(String[] args) throws Exception {
        face();
        members();
        source(Files.readString(Path.of(SOURCE)));
        check.close();
    }

    private static void rule(String rule, boolean kept) {
        check.due(rule, kept, true);
    }

    private static String face(Method m) {
        StringBuilder text = new StringBuilder(m.getReturnType().getName()).append(' ').append(m.getName()).append('(');
        for (Class<?> type : m.getParameterTypes()) {
            text.append(text.charAt(text.length() - 1) == '(' ? "" : ",").append(type.getName());
        }
        return text.append(')').toString();
    }

    private static void face() throws Exception {
        Set<String> found = new TreeSet<>();
        for (Method m : BangSquare.class.getDeclaredMethods()) {
            if (!Modifier.isPrivate(m.getModifiers())) {
                found.add(face(m));
                rule("public, not static: " + m, Modifier.isPublic(m.getModifiers()) && !Modifier.isStatic(m.getModifiers()));
            }
        }
        rule("the face is the document's: " + found, found.equals(FACE));
        rule("the class is public and final", Modifier.isPublic(BangSquare.class.getModifiers())
                && Modifier.isFinal(BangSquare.class.getModifiers()));
        rule("one public constructor", BangSquare.class.getDeclaredConstructors().length == 1
                && Modifier.isPublic(BangSquare.class.getDeclaredConstructor().getModifiers()));
        check.due("NONE", BangSquare.NONE, -1);
    }

    private static void members() {
        List<Class<?>> classes = new ArrayList<>(Arrays.asList(BangSquare.class.getDeclaredClasses()));
        classes.add(BangSquare.class);
        rule("11: twelve classes", classes.size() <= 12);
        for (Class<?> c : classes) {
            int fields = 0;
            rule("2: static: " + c, c == BangSquare.class || Modifier.isStatic(c.getModifiers()));
            for (Field f : c.getDeclaredFields()) {
                boolean isStatic = Modifier.isStatic(f.getModifiers());
                fields += isStatic ? 0 : 1;
                rule("5: " + f, !isStatic || Modifier.isFinal(f.getModifiers()));
                rule("1: " + f, c != BangSquare.class || Modifier.isPrivate(f.getModifiers()) || f.getName().equals("NONE"));
            }
            rule("11: twenty fields: " + c, fields <= 20);
            for (Method m : c.getDeclaredMethods()) {
                rule("11: seven parameters: " + m, m.getParameterCount() <= 7);
                boolean named = FACE.stream().anyMatch(f -> f.contains(" " + m.getName() + "("));
                rule("1: another method's name: " + m, !named || c == BangSquare.class && FACE.contains(face(m)));
            }
        }
    }

    private static void source(String text) {
        String bare = text.replaceAll("(?s)/\\*.*?\\*/", "").replaceAll("//[^\n]*", "");
        String code = bare.replaceAll("\"[^\"\n]*\"", "\"\"");
        Matcher words = Pattern.compile("\\b(throw|throws|try|catch|synchronized|assert|protected|var|native|volatile|float|double)\\b")
                .matcher(code);
        rule("6: a word that is ruled out", !words.find());
        rule("2: no lambda, no method reference", !code.contains("->") && !code.contains("::"));
        rule("4: no import but Arrays", code.replace("import java.util.Arrays;", "").indexOf("import") < 0);
        rule("3: signs 1 to 127 alone", text.chars().allMatch(c -> c == '\n' || c >= 32 && c < 127));
        rule("no package", !Pattern.compile("(?m)^package ").matcher(code).find());
        rule("4: nothing that ends in Exact", !code.contains("Exact("));
        Matcher calls = Pattern.compile("\\b(Math|Integer|Long|Arrays|System)\\.(\\w+)").matcher(code);
        Set<String> known = Set.of("Math.max", "Math.min", "Math.abs", "Math.floorDiv", "Integer.bitCount", "Long.bitCount",
                "Arrays.fill", "Arrays.copyOf");
        while (calls.find()) {
            rule("4: " + calls.group(), known.contains(calls.group()));
        }
        lengths(code);
    }

    /** Methods start at four or eight blanks and end with a brace at the same ones. */
    private static void lengths(String code) {
        String[] lines = code.split("\n");
        for (int i = 0; i < lines.length; i++) {
            Matcher start = Pattern.compile("^( {4}| {8})(?!.*\\bclass\\b)\\S.*\\) \\{$").matcher(lines[i]);
            if (start.find()) {
                int end = i;
                while (end < lines.length && !lines[end].equals(start.group(1) + "}")) {
                    end++;
                }
                rule("11: sixty lines: " + lines[i].trim(), end - i < 60);
            }
        }
    }
}
