import java.util.ArrayList;
import java.util.List;
import java.util.Set;
import java.util.TreeSet;

/** The boundary cases of the texts in Terms 2, promises 8 to 11, sentence by sentence. */
final class EdgeTextTest {
    private static final int NONE = BangSquare.NONE;
    private static final int BLANKS = 0x20202020;
    private static final Edge edge = new Edge("EdgeTextTest");

    private static final String LAW_VALUES = "bang crack wall gap walls near ";
    private static final String RULE_VALUES = "loud long ahead behind ";
    private static final String[] TOKENS = ("turn bang crack wall no when or and not gap walls near shot truck board loud long ahead behind "
            + "1 99999 00000 123456 x turns Turn ; + - * / ( ) < = > , . ! ? _ : [ ] { } % & | ^ ~ # $ @ ' \" ` \\").split(" ");

    public static void main(String[] args) {
        promise8();
        promise9();
        promise10();
        promise10Stays();
        promise11();
        letters();
        digits();
        signsAndBlanks();
        grammar(true, "turn no", "turn", LAW_VALUES);
        grammar(false, "shot", "shot truck board", RULE_VALUES);
        lineHeads();
        emptyAtFirst();
        faultOne();
        faultTwo();
        faultThreeLines();
        faultThreeOpen();
        firstByPlace();
        edge.close();
    }

    private static void good(int k, String text, int lines) {
        BangSquare s = new BangSquare();
        edge.due("lines of '" + text + "'", Check.text(s, k, text), lines);
        edge.due("no fault in '" + text + "'", s.fault(0), 0);
        edge.due("no place in '" + text + "'", s.fault(1), NONE);
    }

    private static void bad(int k, String text, int fault, int place) {
        BangSquare s = new BangSquare();
        edge.due("'" + text + "'", Check.text(s, k, text), NONE);
        edge.due("fault of '" + text + "'", s.fault(0), fault);
        edge.due("place in '" + text + "'", s.fault(1), place);
    }

    private static String repeat(String text, int n) {
        return text.repeat(n);
    }

    // ---- promises 8 to 11 ----

    private static void promise8() {
        edge.says("Promise 8", "Twenty bytes come behind the TAPE of bytes, of each number the highest first: how many it has.");
        for (int i = 0; i < 20; i++) {
            // All blanks but one byte, which can't stand: its place tells where it came.
            int[] n = {BLANKS, BLANKS, BLANKS, BLANKS, BLANKS};
            int shift = 24 - 8 * (i % 4);
            for (int sign : new int[] {'x', 0, 127, 128, 255}) {
                n[i / 4] = BLANKS & ~(255 << shift) | sign << shift;
                BangSquare s = new BangSquare();
                edge.due("twenty", s.feed(n[0], n[1], n[2], n[3], n[4]), 20);
                edge.due("sign " + sign + " at " + i, s.text(0), NONE);
                edge.due("its place", s.fault(1), i);
            }
        }
        BangSquare s = new BangSquare();
        s.feed(BLANKS, BLANKS, BLANKS, BLANKS, BLANKS);
        s.end(3);
        edge.due("behind what is left", s.feed(0, 0, 0, 0, 0), 23);
        s.text(0);
        edge.due("the first of the new ones is at 3", s.fault(1), 3);
        edge.says("Promise 8", "NONE, and nothing comes, if there would be more than 400.");
        BangSquare full = new BangSquare();
        for (int i = 1; i <= 20; i++) {
            edge.due("feed " + i, full.feed(BLANKS, BLANKS, BLANKS, BLANKS, BLANKS), 20 * i);
        }
        edge.due("420", full.feed(0, 0, 0, 0, 0), NONE);
        edge.due("still 400", full.end(401), false);
        edge.due("just 400", full.end(400), true);
        edge.due("the bytes are as they were", full.text(0), 0);
        edge.due("then there is room", full.feed(BLANKS, BLANKS, BLANKS, BLANKS, BLANKS), 20);
        for (int n = 379; n <= 382; n++) {
            BangSquare some = new BangSquare();
            for (int i = 0; i < 20; i++) {
                some.feed(BLANKS, BLANKS, BLANKS, BLANKS, BLANKS);
            }
            some.end(n);
            edge.due("20 behind " + n, some.feed(0, 0, 0, 0, 0), n <= 380 ? n + 20 : NONE);
            edge.due("how many behind " + n, some.end(n + 1), n <= 380);
        }
    }

    private static void promise9() {
        edge.says("Promise 9", "The bytes are their first n alone: true; false, changing nothing, if there are not so many, or n is below 0.");
        edge.range("end of none", v -> new BangSquare().end(v), 0, 0);
        edge.range("end of twenty", v -> {
            BangSquare s = new BangSquare();
            s.feed(BLANKS, BLANKS, BLANKS, BLANKS, BLANKS);
            return s.end(v);
        }, 0, 20);
        BangSquare s = new BangSquare();
        String text = "shot when 1=1;";
        Check.lay(s, text + "      ");
        edge.due("-1", s.end(-1), false);
        edge.due("21", s.end(21), false);
        edge.due("MIN", s.end(Integer.MIN_VALUE), false);
        edge.due("nothing changed", s.feed(BLANKS, BLANKS, BLANKS, BLANKS, BLANKS), 40);
        edge.due("the first 14", s.end(14), true);
        edge.due("again", s.end(14), true);
        edge.due("15 no longer", s.end(15), false);
        edge.due("they are as they were", s.text(4), 1);
        Check.lay(s, text);
        edge.due("one less", s.end(13), true);
        edge.due("the end lacks ;", s.text(4), NONE);
        edge.due("at 13", s.fault(1), 13);
        Check.lay(s, text);
        edge.due("none", s.end(0), true);
        edge.due("an empty text", s.text(4), 0);
    }

    private static void promise10() {
        edge.says("Promise 10", "The bytes, none then, are LAW k (0 .. 3), or THE RULES (4): how many lines.");
        for (int k = 0; k <= 4; k++) {
            String line = k < 4 ? "turn no when 1=1;" : "shot when 1=1;";
            BangSquare s = new BangSquare();
            for (int n = 0; n <= 12; n++) {
                edge.due(n + " lines as text " + k, Check.text(s, k, repeat(line, n)), n);
                edge.due("none then", s.end(1), false);
            }
            String full = repeat(line, 12);
            edge.due("400 bytes", Check.text(s, k, full + repeat(" ", 400 - full.length())), 12);
            String wide = line.substring(0, line.length() - 1) + repeat("+1", (400 - line.length()) / 2);
            edge.due("one line of 399 or 400 bytes", Check.text(s, k, wide + ";"), 1);
            edge.due("a fault", Check.text(s, k, wide), NONE);
            edge.due("none then, with a fault, too", s.end(1), false);
        }
        edge.says("Promise 10", "NONE: no such one (fault() tells 0), or a FAULT (it stays as it was).");
        for (int k : new int[] {-1, 5, Integer.MIN_VALUE, Integer.MAX_VALUE}) {
            BangSquare s = new BangSquare();
            Check.text(s, 0, "x");
            edge.due("a fault", s.fault(0), 1);
            Check.lay(s, "turn no when 1=1;");
            edge.due("text(" + k + ")", s.text(k), NONE);
            edge.due("fault(0) tells 0", s.fault(0), 0);
            edge.due("fault(1) tells none", s.fault(1), NONE);
            edge.due("the bytes are none", s.end(1), false);
            edge.due("just none", s.end(0), true);
            edge.due("twenty more are twenty", s.feed(BLANKS, BLANKS, BLANKS, BLANKS, BLANKS), 20);
        }
        edge.range("text(k) of none", k -> new BangSquare().text(k) == 0, 0, 4);
    }

    private static void promise10Stays() {
        edge.says("Promise 10", "or a FAULT (it stays as it was).");
        BangSquare s = new BangSquare();
        s.hearer(0, 0);
        s.shot(5, 0, NONE, 0);
        s.noise(0, 0, 0, 1);
        for (int k = 0; k < 4; k++) {
            Check.text(s, k, "turn bang when 1=1;");
            Check.text(s, k, "turn no when 1=1; turn no when 1=1");
            edge.due("law " + k, s.turning(k, 0, 0), 0);
            Check.text(s, k, "turn no when 1/0=1;");
            edge.due("law " + k + " after fault 2", s.turning(k, 0, 0), 0);
            Check.text(s, k, repeat("turn no when 1=1;", 13));
            edge.due("law " + k + " after fault 3", s.turning(k, 0, 0), 0);
        }
        Check.text(s, 4, "board when 1=1;");
        Check.text(s, 4, "shot when 1=1;;");
        edge.due("the rules", s.noises(10), 3);
        for (int k = 0; k < 4; k++) {
            Check.text(s, k, "");
            edge.due("law " + k + " emptied", s.turning(k, 0, 0), NONE);
            edge.due("the others are not", s.turning(3, 0, 0), k < 3 ? 0 : NONE);
        }
        edge.due("nor are the rules", s.noises(10), 3);
        Check.text(s, 4, "");
        edge.due("the rules emptied", s.noises(10), 0);
    }

    private static void promise11() {
        edge.says("Promise 11", "Of the latest text(): what 0 the FAULT (0 without one), 1 its place (NONE).");
        BangSquare s = new BangSquare();
        edge.due("before any", s.fault(0), 0);
        edge.due("before any, the place", s.fault(1), NONE);
        Check.text(s, 0, " x");
        edge.due("a fault", s.fault(0), 1);
        edge.due("its place", s.fault(1), 1);
        edge.due("asked again", s.fault(0), 1);
        Check.lay(s, "turn");
        edge.due("feed() and end() don't change it", s.fault(1), 1);
        s.end(0);
        Check.text(s, 4, "shot when 1=1/0;");
        edge.due("the latest", s.fault(0), 2);
        edge.due("the latest's place", s.fault(1), 14);
        Check.text(s, 0, "");
        edge.due("without one", s.fault(0), 0);
        edge.due("without one, the place", s.fault(1), NONE);
        Check.text(s, 0, "y");
        edge.due("at 0", s.fault(1), 0);
        beginsAnew();
        edge.says("Promise 11", "NONE for another what.");
        edge.refused("with a fault", v -> s.fault(v) != NONE, -1, 2, Integer.MIN_VALUE, Integer.MAX_VALUE);
        edge.refused("without", v -> new BangSquare().fault(v) != NONE, -1, 1, 2, Integer.MIN_VALUE, Integer.MAX_VALUE);
    }

    /** What an earlier text left open, told or counted has nothing to do with the latest one. */
    private static void beginsAnew() {
        String[] broken = {"turn no when ((((((((", "turn no when not not not not not not not not", "turn no when not", "turn no when 1=1 or 0=",
            "turn no when 1+1*", "turn no when (1=1 or (1=1 and not", "turn no when 1", "turn no when 1=1 and 7/", "turn", "turn no",
            "turn no when 1=1;".repeat(12) + "turn"};
        String[] whole = {"turn bang when 1=1;", "turn bang when not 1=2;", "turn bang when ((((((((1=1))))))));",
            "turn bang when not not not not not not not not 1=1;", "turn no when 1=2;".repeat(11) + "turn bang when 2*3=6;"};
        for (String before : broken) {
            BangSquare s = new BangSquare();
            s.hearer(0, 0);
            s.shot(5, 0, NONE, 0);
            for (String text : whole) {
                edge.due("'" + before + "'", Check.text(s, 0, before), NONE);
                edge.due("'" + text + "' behind '" + before + "'", Check.text(s, 0, text), text.length() > 100 ? 12 : 1);
                edge.due("no fault", s.fault(0), 0);
                edge.due("it is so", s.turning(0, 0, 0), 0);
            }
        }
    }

    // ---- tokens ----

    private static void letters() {
        edge.says("Terms 2", "TOKENS: letters as many as stand together are KEYWORDS (those told for such a TEXT) or none");
        bad(0, "turnno when 1=1;", 1, 0);
        bad(0, "turn nowhen 1=1;", 1, 5);
        bad(0, "turn n o when 1=1;", 1, 5);
        bad(0, "tur", 1, 0);
        bad(0, "turn w when 1=1;", 1, 5);
        bad(0, "turn walls when 1=1;", 1, 5);
        bad(0, "turn no when wal=1;", 1, 13);
        bad(0, "turn no when wallss=1;", 1, 13);
        good(0, "turn no when wall=walls;", 1);
        bad(0, "turn no when notnot 1=1;", 1, 13);
        bad(0, "turn no when Bang=1;", 1, 13);
        bad(0, "turn no when banG=1;", 1, 13);
        bad(0, "turn no when bangZ=1;", 1, 13);
        bad(0, "turn no when bangbangbangbang=1;", 1, 13);
        bad(0, "turn no when loud=1;", 1, 13);
        bad(0, "shot when 1=1;", 1, 0);
        bad(4, "turn no when 1=1;", 1, 0);
        bad(4, "shot when bang=1;", 1, 10);
        bad(4, "shot when near=1;", 1, 10);
        good(4, "shot when behind=ahead;", 1);
        bad(4, "shot when behindx=1;", 1, 10);
        bad(4, "shot when behin=1;", 1, 10);
        bad(4, "shots when 1=1;", 1, 0);
    }

    private static void digits() {
        edge.says("Terms 2", "digits as many as stand together NUMBERS of 1 to 5 digits or none");
        good(0, "turn no when 0=1;", 1);
        good(0, "turn no when 9=99999;", 1);
        good(0, "turn no when 00000=00009;", 1);
        bad(0, "turn no when 100000=1;", 1, 13);
        bad(0, "turn no when 000001=1;", 1, 13);
        bad(0, "turn no when 1=000000;", 1, 15);
        bad(0, "turn no when 1=12345678901234567890;", 1, 15);
        bad(0, "turn no when 1 1=1;", 1, 15);
        bad(0, "turn no when 1=1 2;", 1, 17);
        bad(0, "turn no when 1=1/000000;", 1, 17);
        bad(4, "shot when 1=4294967297;", 1, 12);
        BangSquare s = new BangSquare();
        s.noise(9999, 999, 0, 1);
        Check.text(s, 4, "shot when 99999=100*1000-1 and 00010=10 and 09999=loud and 0999=long;");
        edge.due("what they are", s.noises(10), 1);
    }

    private static void signsAndBlanks() {
        edge.says("Terms 2", "; + - * / ( ) < = > . Blanks (32, 10) between.");
        good(0, "turn no when(1+1-1*1/1<1)or 1=1or 1>1;", 1);
        good(0, "  \n\nturn\n \nno when 1\n=\n1 ; \n", 1);
        good(0, " ", 0);
        good(0, "\n", 0);
        good(0, "turn no when 1=1and 1=1;turn no when 1=1;", 2);
        for (int sign = 0; sign < 256; sign++) {
            char c = (char) sign;
            boolean known = c == ' ' || c == '\n';
            if (known) {
                good(0, "turn no when 1=1;" + c, 1);
            } else {
                // Behind a whole line nothing but a line can stand: letters, digits and all other signs are faults there.
                bad(0, "turn no when 1=1;" + c, 1, 17);
            }
            if (!known && "+-*/<=>".indexOf(c) < 0 && !Character.isDigit(c)) {
                bad(0, "turn no when 1" + c + "=1;", 1, 14);
            }
        }
        bad(0, "turn no when 1<=1;", 1, 15);
        bad(0, "turn no when 1==1;", 1, 15);
        bad(0, "turn no when 1--1=1;", 1, 15);
    }

    // ---- the grammar: what may stand behind each beginning ----

    /** Behind a beginning each token may stand that is told; each other one is fault 1 at its place. */
    private static void behind(boolean law, String beginning, String mayStand) {
        Set<String> may = new TreeSet<>(List.of(mayStand.trim().split(" +")));
        int k = law ? 0 : 4;
        for (String token : TOKENS) {
            String text = beginning + " " + token;
            BangSquare s = new BangSquare();
            int lines = Check.text(s, k, text);
            boolean stands = may.contains(token) || may.contains("NUMBER") && token.matches("[0-9]{1,5}");
            boolean whole = stands && token.equals(";");
            edge.due("'" + text + "' is whole", lines != NONE, whole);
            edge.due("fault of '" + text + "'", s.fault(0), whole ? 0 : 1);
            int end = stands ? text.length() : beginning.length() + 1;
            edge.due("place in '" + text + "'", s.fault(1), whole ? NONE : end);
        }
        BangSquare s = new BangSquare();
        boolean ends = may.contains("END");
        edge.due("the end behind '" + beginning + "'", Check.text(s, k, beginning) != NONE, ends);
        edge.due("its fault", s.fault(0), ends ? 0 : 1);
        edge.due("its place", s.fault(1), ends ? NONE : beginning.length());
    }

    private static void grammar(boolean law, String head, String heads, String values) {
        edge.says("Terms 2", law ? "HEARERS' LAWS 0 .. 3 are TEXTS (empty at first) = {turn (bang | crack | wall | no) when B ;}."
                : "THE RULES are a TEXT (empty at first) = {(shot | truck | board) when B ;}.");
        String line = head + " when ";
        String unit = "NUMBER " + values;
        String claim = unit + "not (";
        behind(law, "", heads + " END");
        behind(law, line + "1=1;", heads + " END");
        behind(law, head, "when");
        edge.says("Terms 2", "B = A {or A}.");
        behind(law, line, claim);
        behind(law, line + "1=1 or", claim);
        behind(law, line + "1=1 or 1=1", "or and ; + - * /");
        edge.says("Terms 2", "A = C {and C}.");
        behind(law, line + "1=1 and", claim);
        behind(law, line + "1=1 and 1=1", "or and ; + - * /");
        edge.says("Terms 2", "C = E (< | = | >) E | not C | ( B ).");
        behind(law, line + "1", "< = > + - * /");
        for (String sign : new String[] {"<", "=", ">"}) {
            behind(law, line + "1" + sign, unit);
            behind(law, line + "1" + sign + "1", "or and ; + - * /");
        }
        behind(law, line + "not", claim);
        behind(law, line + "not 1", "< = > + - * /");
        behind(law, line + "not 1=1", "or and ; + - * /");
        behind(law, line + "(", claim);
        behind(law, line + "(1", "< = > + - * /");
        behind(law, line + "(1=1", "or and ) + - * /");
        behind(law, line + "(1=1)", "or and ;");
        behind(law, line + "((1=1)", "or and )");
        behind(law, line + "not (1=1)", "or and ;");
        behind(law, line + "(not 1=1 or 1=1", "or and ) + - * /");
        edge.says("Terms 2", "E = T {(+ | -) T}.");
        behind(law, line + "1+", unit);
        behind(law, line + "1-", unit);
        behind(law, line + "1+1", "< = > + - * /");
        behind(law, line + "1=1-1", "or and ; + - * /");
        edge.says("Terms 2", "T = U {* U | / NUMBER}.");
        behind(law, line + "1*", unit);
        behind(law, line + "1*1", "< = > + - * /");
        behind(law, line + "1/1", "< = > + - * /");
        partMustBeNumber(law, line);
        edge.says("Terms 2", law ? "U = NUMBER | bang | crack | wall | gap | walls | near in HEARERS' LAWS"
                : "NUMBER | loud | long | ahead | behind in THE RULES.");
        for (String value : values.trim().split(" ")) {
            behind(law, line + value, "< = > + - * /");
            behind(law, line + "1=" + value, "or and ; + - * /");
        }
    }

    private static void partMustBeNumber(boolean law, String line) {
        int k = law ? 0 : 4;
        List<String> all = new ArrayList<>(List.of(TOKENS));
        all.add("");
        for (String token : all) {
            String text = line + "1/ " + token;
            BangSquare s = new BangSquare();
            edge.due("'" + text + "'", Check.text(s, k, text), NONE);
            boolean number = token.matches("[0-9]{1,5}");
            boolean zero = token.equals("00000");
            edge.due("fault of '" + text + "'", s.fault(0), zero ? 2 : 1);
            edge.due("place in '" + text + "'", s.fault(1), number && !zero ? text.length() : line.length() + 3);
        }
    }

    private static void lineHeads() {
        edge.says("Terms 2", "{turn (bang | crack | wall | no) when B ;}.");
        behind(true, "turn", "bang crack wall no");
        behind(true, "turn bang", "when");
        behind(true, "turn crack", "when");
        behind(true, "turn wall", "when");
        edge.says("Terms 2", "{(shot | truck | board) when B ;}.");
        behind(false, "truck", "when");
        behind(false, "board", "when");
    }

    private static void emptyAtFirst() {
        edge.says("Terms 2", "HEARERS' LAWS 0 .. 3 are TEXTS (empty at first)");
        BangSquare s = new BangSquare();
        s.hearer(0, 0);
        s.shot(5, 0, NONE, 0);
        s.noise(0, 0, 0, 1);
        edge.range("law k after a line", k -> {
            BangSquare t = new BangSquare();
            t.hearer(0, 0);
            t.shot(5, 0, NONE, 0);
            Check.text(t, k, "turn bang when 1=1;");
            return t.turning(k, 0, 0) == 0;
        }, 0, 3);
        for (int k = 0; k < 4; k++) {
            edge.due("law " + k, s.turning(k, 0, 0), NONE);
        }
        edge.says("Terms 2", "THE RULES are a TEXT (empty at first)");
        edge.due("no rule", s.noises(10), 0);
    }

    // ---- faults ----

    private static void faultOne() {
        edge.says("Terms 2", "1 what can't stand there (the end: the text's length).");
        bad(0, "turn", 1, 4);
        bad(0, "turn ", 1, 5);
        bad(0, "turn \n\n", 1, 7);
        bad(0, "turn no when 1=1", 1, 16);
        String long400 = "turn no when 1=1" + repeat("+1", 192);
        bad(0, long400, 1, 400);
        bad(0, repeat(" ", 399) + ";", 1, 399);
        bad(0, repeat(" ", 396) + "turn", 1, 400);
    }

    private static void faultTwo() {
        edge.says("Terms 2", "2 (at the NUMBER) a part by 0.");
        bad(0, "turn no when 1/0=1;", 2, 15);
        bad(0, "turn no when 1/ \n 0=1;", 2, 18);
        bad(0, "turn no when 1/00=1;", 2, 15);
        bad(0, "turn no when 1/00000=1;", 2, 15);
        bad(0, "turn no when 1/1/0=1;", 2, 17);
        bad(0, "turn no when 1*1/0=1;", 2, 17);
        bad(0, "turn no when 1=1/0;", 2, 17);
        bad(0, "turn no when 1=0/0", 2, 17);
        bad(0, "turn no when 1=1/0", 2, 17);
        bad(4, "shot when loud/0>1;", 2, 15);
        good(0, "turn no when 0/1=1/99999;", 1);
        good(0, "turn no when 1/00001=0;", 1);
        good(0, "turn no when 1*0=0*0-0+0;", 1);
    }

    private static void faultThreeLines() {
        edge.says("Terms 2", "3 (at its KEYWORD) the 13th line");
        for (int k : new int[] {0, 3, 4}) {
            String line = k < 4 ? "turn no when 1=1;" : "board when 1=1;";
            String twelve = repeat(line, 12);
            good(k, repeat(line, 11), 11);
            good(k, twelve, 12);
            good(k, twelve + " \n ", 12);
            bad(k, twelve + line, 3, twelve.length());
            bad(k, twelve + "\n " + line, 3, twelve.length() + 2);
            bad(k, twelve + line.substring(0, 5), 3, twelve.length());
            bad(k, twelve + line + line, 3, twelve.length());
            bad(k, twelve + ";", 1, twelve.length());
            bad(k, twelve + "when", 1, twelve.length());
        }
        String rules = repeat("shot when 1=1;", 12);
        bad(4, rules + "truck", 3, rules.length());
        bad(4, rules + "board", 3, rules.length());
        bad(4, rules + "turn", 1, rules.length());
    }

    private static void faultThreeOpen() {
        edge.says("Terms 2", "(at it) the 9th ( or not that is open.");
        String line = "turn no when ";
        for (int brackets = 0; brackets <= 9; brackets++) {
            for (int nots = 0; nots + brackets <= 9; nots++) {
                String open = repeat("(", brackets) + repeat("not ", nots);
                String turned = repeat("not ", nots) + repeat("(", brackets);
                String close = repeat(")", brackets);
                if (brackets + nots <= 8) {
                    good(0, line + open + "1=1" + close + ";", 1);
                    good(0, line + turned + "1=1" + close + ";", 1);
                } else {
                    bad(0, line + open + "1=1" + close + ";", 3, line.length() + open.length() - (nots > 0 ? 4 : 1));
                    bad(0, line + turned + "1=1" + close + ";", 3, line.length() + turned.length() - (brackets > 0 ? 1 : 4));
                }
            }
        }
        String eight = "((((((((1=1))))))))";
        good(0, line + eight + " and " + eight + " or " + eight + ";", 1);
        good(0, line + eight + ";" + line + eight + ";", 2);
        String nots = repeat("not ", 8) + "1=1";
        good(0, line + nots + " and " + nots + " or " + nots + ";" + line + nots + ";", 2);
        good(0, line + "(((((((not 1=1 and not 1=1 or (1=1) or not 1=1)))))));", 1);
        good(0, line + "(((((((not 1=1))))))) or not (((((((1=1)))))));", 1);
        String seven = line + "(((((((";
        bad(0, seven + "not 1=1 and not not 1=1)))))));", 3, seven.length() + 16);
        bad(0, seven + "not 1=1 or (not 1=1))))))));", 3, seven.length() + 12);
        bad(0, seven + "not (", 3, seven.length() + 4);
        bad(0, seven + "((", 3, seven.length() + 1);
        bad(4, "shot when " + repeat("(", 9), 3, 18);
    }

    private static void firstByPlace() {
        edge.says("Terms 2", "FAULTS, the first by its place, at one place the least");
        bad(0, "turn no when 1/0=1; x", 2, 15);
        bad(0, "turn no when x=1/0;", 1, 13);
        bad(0, "turn no when (((((((((1/0=1;", 3, 21);
        bad(0, "turn no when 1/0=1 and (((((((((1=1;", 2, 15);
        bad(0, "turn no when ((((((((1=(", 1, 23);
        bad(0, "turn no when ((((((((1=not", 1, 23);
        bad(0, "turn no when ((((((((1=1 (", 1, 25);
        String twelve = repeat("turn no when 1=1;", 12);
        bad(0, twelve + "no", 1, twelve.length());
        bad(0, twelve + "turn x", 3, twelve.length());
        bad(0, twelve.substring(0, twelve.length() - 2) + "/0;turn", 1, twelve.length() - 2);
        bad(0, twelve.substring(0, twelve.length() - 1) + "/0;turn", 2, twelve.length());
    }
}
