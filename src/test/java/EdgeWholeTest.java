import java.lang.reflect.Constructor;
import java.lang.reflect.Field;
import java.lang.reflect.Method;
import java.lang.reflect.Modifier;
import java.util.ArrayList;
import java.util.List;
import java.util.Set;
import java.util.TreeSet;
import java.util.function.Consumer;
import java.util.regex.Matcher;
import java.util.regex.Pattern;

/** The document's parts "What it is", "The public face" and "Not promised". */
final class EdgeWholeTest {
    private static final int NONE = BangSquare.NONE;
    private static final int LAST_CALL = 512;
    private static final Edge edge = new Edge("EdgeWholeTest");

    public static void main(String[] args) {
        oneSquare();
        oneTown();
        upToTheLastCall();
        face();
        askingChangesNothing();
        objectsAreApart();
        edge.close();
    }

    private static int cell(int x, int y) {
        return Check.cell(x, y);
    }

    // ---- What it is: one case told from its first sound to its last roof ----

    /** A shot at 10, 10 with a ball to 20, 10; a wall at x = 30; an ear, a hearer and a spot at 20, 15. */
    private static BangSquare town() {
        BangSquare s = new BangSquare();
        s.wall(true, 30, 0, 40, 50);
        s.shot(cell(10, 10), 1000, cell(20, 10), 10);
        s.spot(0, cell(10, 10));
        s.spot(1, cell(20, 15));
        return s;
    }

    private static void oneSquare() {
        edge.says("What it is", "Where shots came from: a square with walls and wind,");
        BangSquare s = town();
        edge.due("a wall", s.look(0), 1);
        s.set(1, 8);
        edge.due("with the wind", s.comes(cell(10, 10), cell(20, 15), 0), 23);
        s.set(1, 0);
        edge.says("What it is", "shots that bang where they are let off and, if their ball is quick, crack along its way,");
        edge.due("at once where it is let off", s.gets(0, cell(10, 10), 0), 1000);
        edge.due("the bang", s.gets(0, cell(20, 15), 0), 1033);
        edge.due("the crack, sooner", s.gets(0, cell(20, 15), 1), 1022);
        edge.due("from its way", s.gets(0, cell(20, 15), 2), cell(17, 10));
        edge.due("a slow ball's crack", s.shot(cell(10, 10), 1000, cell(20, 10), 99), 1);
        edge.due("is no sooner than the bang", s.gets(1, cell(20, 15), 1), 1033);
        edge.says("What it is", "sound that comes straight and off each wall;");
        edge.due("one off the wall", s.gets(0, cell(20, 15), 4), 1);
        edge.due("later", s.gets(0, cell(20, 15), 10), 1090);
        edge.says("What it is", "ears and what each gets of a shot; cells from which it must have come by ears whose places are known;");
        int[] ears = {0, 59, cell(0, 59), cell(59, 59)};
        for (int i = 0; i < 4; i++) {
            s.ear(ears[i]);
            s.got(i, s.gets(0, ears[i], 0), s.gets(0, ears[i], 0));
        }
        int many = s.from(0);
        edge.due("few cells, its own among them", many >= 1 && many < 36 && s.from(1) <= 610 && s.from(2) >= 610, true);
        edge.says("What it is", "tapes whose own ear is asked, too, and how many places fit as well;");
        s.click(0, 500);
        s.click(0, 557);
        edge.due("bang and back have a click", s.fits(0, 0, 1, 0), 2);
        edge.due("from 0 to 1", s.couple(0, 0), 1);
        edge.due("1 to 0 as well", s.couple(0, 2), 2);
        edge.says("What it is", "a wall that must be there;");
        edge.due("the wall", s.must(0, 0, 1), 1);
        edge.says("What it is", "voices that lie over a tape;");
        s.voice(0, 100, 1000, 1010);
        s.voice(0, 200, 1100, 1110);
        edge.due("it can be", s.over(0, 0), 1);
        s.voice(0, 300, 5000, 5000);
        edge.due("this one lies over it", s.over(0, 1), 2);
    }

    private static void oneTown() {
        edge.says("What it is", "hearers who turn round by laws told as texts, stories by how many turned as they should;");
        BangSquare s = town();
        s.shot(cell(10, 10), 0, NONE, 0);
        s.hearer(cell(20, 15), 5);
        s.hearer(cell(20, 15), 5);
        s.hearer(cell(20, 15), 4);
        Check.text(s, 0, "turn crack when crack>0; turn bang when 1=1;");
        Check.text(s, 1, "turn bang when 1=1;");
        edge.due("to the crack", s.turning(0, 0, 0), 5);
        edge.due("to the bang", s.turning(1, 0, 0), 4);
        s.story(0, 2);
        s.story(1, 1);
        edge.due("without a ball one turned so", s.stories(0, 0), 1);
        edge.due("with it two did", s.stories(0, 1), 2);
        edge.due("so it is", s.stories(0, 6), 1);
        edge.says("What it is", "noises that are none, sorted by rules;");
        Check.text(s, 4, "shot when loud>500; truck when 1=1;");
        s.noise(600, 5, 100, 1);
        s.noise(100, 5, 200, 2);
        s.noise(700, 5, 300, 3);
        s.noise(400, 5, 400, 1);
        edge.due("a shot", s.noises(10), 1);
        edge.due("a truck", s.noises(11), 2);
        edge.due("a board is sent as a shot", s.noises(0), 1);
        edge.due("a shot is missed", s.noises(1), 1);
        edge.says("What it is", "the fewest trial shots that part laws, and the roofs on which ears tell most places apart.");
        edge.due("without a ball the laws are alike", s.trials(3), NONE);
        s.ball(cell(20, 10), 10);
        edge.due("with it spot 0 parts them", s.trials(3), 1);
        edge.due("both spots are roofs", s.roofs(2, 0), 3);
        edge.due("they tell one couple apart", s.apart(3, 0), 1);
    }

    /** An object with its calls counted, for questions that are asked as the last ones that are promised. */
    private static void upToTheLastCall() {
        edge.says("What it is", "An object is used for at most 512 calls after it has been made;");
        BangSquare s = new BangSquare();
        int calls = 0;
        for (int i = 0; i < 10; i++) {
            s.wall(true, 50 + i % 5, 0, 59, 0);
            s.shot(cell(10, 10), i, NONE, 0);
            s.spot(i, cell(10 + i, 10 + i % 3));
            s.hearer(cell(20, 10), 4);
            calls += 4;
        }
        String text = "turn bang when 1=1;";
        Check.text(s, 0, text);
        calls += 3;
        while (calls < LAST_CALL - 10) {
            s.feed(0x78787878, 0x78787878, 0x78787878, 0x78787878, 0x78787878);
            s.text(1);
            calls += 2;
            if (calls < LAST_CALL - 10) {
                edge.due("call " + calls, s.gets(0, cell(20, 10), 0), 30);
                calls++;
            }
        }
        edge.due("the walls", s.look(0), 10);
        edge.due("the latest fault", s.fault(0), 1);
        edge.due("bytes", s.feed(0, 0, 0, 0, 0), 20);
        edge.due("an end", s.end(0), true);
        edge.due("a law, as it was told", s.turning(0, 9, 9), 4);
        edge.due("a tape's first click", s.click(3, 5), 1);
        edge.due("a couple", s.couple(3, 0) != NONE, true);
        edge.due("all cells", s.from(0), 3600);
        edge.due("roofs", Integer.bitCount(s.roofs(6, 0)), 6);
        edge.due("the 512th call", s.apart(1, 0), 0);
        edge.due("that were so many", calls + 10, LAST_CALL);
    }

    // ---- The public face ----

    private static void face() {
        if (!Document.isHere()) {
            return;
        }
        String text = Document.text("The public face");
        edge.says("The public face", "public final class BangSquare {");
        edge.due("public", Modifier.isPublic(BangSquare.class.getModifiers()), true);
        edge.due("final", Modifier.isFinal(BangSquare.class.getModifiers()), true);
        edge.due("no package", BangSquare.class.getPackageName().isEmpty(), true);
        Set<String> told = new TreeSet<>();
        Matcher lines = Pattern.compile("public ([^;{]+?);").matcher(text);
        while (lines.find()) {
            told.add(lines.group(1).replaceAll("(int|boolean) \\w+(?=[,)])", "$1"));
        }
        edge.due("constant, constructor and 30 methods", told.size(), 32);
        Set<String> found = members();
        for (String line : told) {
            edge.due("is there: public " + line, found.contains(line), true);
        }
        for (String line : found) {
            edge.due("is the document's: public " + line, told.contains(line), true);
        }
    }

    private static String types(Class<?>[] types) {
        List<String> names = new ArrayList<>();
        for (Class<?> type : types) {
            names.add(type.getName());
        }
        return "(" + String.join(", ", names) + ")";
    }

    /** All that is not private, so that a member too many is seen, too. */
    private static Set<String> members() {
        Set<String> found = new TreeSet<>();
        for (Method m : BangSquare.class.getDeclaredMethods()) {
            if (!Modifier.isPrivate(m.getModifiers())) {
                String kind = Modifier.isStatic(m.getModifiers()) ? "static " : "";
                found.add(kind + m.getReturnType().getName() + " " + m.getName() + types(m.getParameterTypes()));
            }
        }
        for (Constructor<?> c : BangSquare.class.getDeclaredConstructors()) {
            if (!Modifier.isPrivate(c.getModifiers())) {
                found.add(c.getName() + types(c.getParameterTypes()));
            }
        }
        for (Field f : BangSquare.class.getDeclaredFields()) {
            if (!Modifier.isPrivate(f.getModifiers())) {
                String kind = Modifier.toString(f.getModifiers()).replace("public ", "");
                found.add(kind + " " + f.getType().getName() + " " + f.getName() + " = " + BangSquare.NONE);
            }
        }
        return found;
    }

    // ---- Not promised ----

    private static BangSquare made(Consumer<BangSquare> build) {
        BangSquare s = new BangSquare();
        build.accept(s);
        return s;
    }

    /** Whatever has been asked, the same is answered again, and to all other questions what would be answered without. */
    private static void askingChangesNothing() {
        edge.says("Not promised", "Nothing is promised beyond the answers and state changes described above,");
        List<Consumer<BangSquare>> states = List.of(s -> { }, RefusedTest::some, RefusedTest::full);
        for (int state = 0; state < states.size(); state++) {
            for (int asked = 0; asked <= 3; asked++) {
                for (int group = 0; group <= 5; group++) {
                    List<Integer> plain = RefusedTest.answers(group, made(states.get(state)));
                    BangSquare s = made(states.get(state));
                    RefusedTest.answers(asked, s);
                    edge.due("state " + state + ": group " + asked + " asked, then group " + group,
                            RefusedTest.answers(group, s).equals(plain), true);
                }
            }
        }
    }

    private static void objectsAreApart() {
        edge.says("Promise 1", "An empty SQUARE.");
        for (int group = 0; group <= 5; group++) {
            List<Integer> empty = RefusedTest.answers(group, new BangSquare());
            List<Integer> some = RefusedTest.answers(group, made(RefusedTest::some));
            BangSquare before = new BangSquare();
            BangSquare used = made(RefusedTest::some);
            BangSquare full = made(RefusedTest::full);
            BangSquare after = new BangSquare();
            RefusedTest.answers(group, full);
            edge.due("one made before others were filled, group " + group, RefusedTest.answers(group, before).equals(empty), true);
            edge.due("one made after, group " + group, RefusedTest.answers(group, after).equals(empty), true);
            edge.due("one filled otherwise, group " + group, RefusedTest.answers(group, used).equals(some), true);
        }
    }
}
