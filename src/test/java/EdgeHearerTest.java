/** The boundary cases of the hearers, laws as they are counted and stories in Terms 2, promises 12 to 15. */
final class EdgeHearerTest {
    private static final int NONE = BangSquare.NONE;
    private static final Edge edge = new Edge("EdgeHearerTest");

    public static void main(String[] args) {
        intsWrap();
        partsGoTowardsZero();
        joints();
        hearers();
        firstLine();
        sectorOfEach();
        loudestBack();
        none();
        values();
        valuesWithout();
        storySets();
        storyFits();
        theStory();
        promise12();
        promise13();
        promise14();
        promise15();
        edge.close();
    }

    private static int cell(int x, int y) {
        return Check.cell(x, y);
    }

    /** Held to be so, or not, by a hearer's law and by the rules alike. */
    private static void holds(String condition, boolean want) {
        BangSquare s = new BangSquare();
        s.hearer(0, 0);
        s.shot(5, 0, NONE, 0);
        s.noise(0, 0, 0, 1);
        edge.due("a law with " + condition, Check.text(s, 0, "turn bang when " + condition + ";"), 1);
        edge.due(condition, s.turning(0, 0, 0), want ? 0 : NONE);
        edge.due("rules with " + condition, Check.text(s, 4, "truck when " + condition + ";"), 1);
        edge.due(condition + " by rules", s.noises(10), want ? 2 : 0);
    }

    // ---- texts as they are counted ----

    private static void intsWrap() {
        edge.says("Terms 2", "Ints, which wrap");
        // 65536 * 32768 is 2147483648, one above the greatest int.
        holds("65536*32768<0", true);
        holds("65536*32767>0", true);
        holds("65536*32768=0-65536*32768", true);
        holds("65536*32768-1>0", true);
        holds("65536*32767+65535>0", true);
        holds("65536*32767+65535+1<0", true);
        holds("65536*32767+65535+1=65536*32768", true);
        holds("0-65536*32767-65535-1<0", true);
        holds("0-65536*32767-65535-2>0", true);
        holds("65536*65536=0", true);
        holds("65536*65537=65536", true);
        // 9999800001 less two times 2 to the 32nd is 1409865409.
        holds("99999*99999=65536*21512+54977", true);
        holds("99999*99999>65536*21512+54977", false);
    }

    private static void partsGoTowardsZero() {
        edge.says("Terms 2", "/ goes towards 0.");
        holds("7/2=3", true);
        holds("1/2=0", true);
        holds("0/99999=0", true);
        // 99999 * 42949 wraps to -110245, 65535 * 65537 to -1, 65534 * 65538 to -4.
        holds("99999*42949/2=0-55122", true);
        holds("65535*65537=0-1", true);
        holds("65535*65537/2=0", true);
        holds("65535*65537/99999=0", true);
        holds("65535*65537/1=0-1", true);
        holds("65534*65538/3=0-1", true);
        holds("65534*65538/2=0-2", true);
        holds("65536*32768/1=65536*32768", true);
        holds("65536*32768/2+65536*16384=0", true);
        holds("65536*32768/65536=0-32768", true);
        holds("7/2*2=6", true);
        holds("7*2/2=7", true);
        holds("100/7/2=7", true);
        holds("1-7/2=0-2", true);
    }

    private static void joints() {
        edge.says("Terms 2", "C = E (< | = | >) E | not C | ( B ).");
        holds("0<0", false);
        holds("0<1", true);
        holds("0>0", false);
        holds("1>0", true);
        holds("0=0", true);
        holds("0=1", false);
        // Wrapped numbers are compared as they are, not by their difference.
        holds("65536*32768<1", true);
        holds("65536*32768>1", false);
        holds("1>65536*32768", true);
        holds("65536*32767+65535>0-2", true);
        holds("not 0=1 and 0=1", false);
        holds("not (0=1 and 0=1)", true);
        holds("not not 0=1", false);
        holds("not 0=0", false);
        holds("not 0<1", false);
        holds("not 1>0", false);
        holds("not 2=1", true);
        holds("not 3>5", true);
        holds("not 5<3", true);
        holds("not 2+3*4=1", true);
        holds("not not 0=0", true);
        holds("not not not 0=0", false);
        holds("not not not not not not not not 0=0", true);
        holds("0<1 and 0=0 and 1>0", true);
        holds("not 0=1 and 0<1", true);
        holds("0<1 and not 1=0", true);
        holds("(0<1) and (not 1=0) and (0=1 or 1>0)", true);
        edge.says("Terms 2", "B = A {or A}.");
        holds("0=0 or 0=1 and 0=1", true);
        holds("0=1 and 0=1 or 0=0", true);
        holds("0=1 and (0=1 or 0=0)", false);
        holds("0=1 or 0=1 or 0=1 or 0=0", true);
        edge.says("Terms 2", "A = C {and C}.");
        holds("0=0 and 0=0 and 0=0 and 0=1", false);
        holds("0=1 and 0=0 and 0=0", false);
        edge.says("Terms 2", "E = T {(+ | -) T}.");
        holds("9-3-2=4", true);
        holds("9-3+2=8", true);
        holds("1+2*3=7", true);
        holds("2*3+1=7", true);
        edge.says("Terms 2", "T = U {* U | / NUMBER}.");
        holds("2*3*4=24", true);
        holds("8/3*3=6", true);
        holds("8*3/3=8", true);
        // The deepest nesting: eight ( with an or and an and waiting at each.
        StringBuilder deep = new StringBuilder();
        for (int i = 0; i < 8; i++) {
            deep.append("0=1 or 0=0 and (");
        }
        holds(deep + "0=1 or 0=0 and 1+2*3=1+2*3" + ")".repeat(8), true);
        holds(deep + "0=1 or 0=0 and 1+2*3=1+2*4" + ")".repeat(8), false);
    }

    // ---- hearers ----

    private static void hearers() {
        edge.says("Terms 2", "HEARERS 0 .. 19 as they come: a CELL, and which way one turned: a SECTOR 0 .. 7, or NONE.");
        edge.range("turned", v -> new BangSquare().hearer(0, v) == 0, NONE, 7);
        for (int v = -1; v <= 7; v++) {
            edge.due("turned " + v, new BangSquare().hearer(0, v), 0);
        }
        edge.range("cell", v -> new BangSquare().hearer(v, NONE) == 0, 0, 3599);
    }

    private static void firstLine() {
        edge.says("Terms 2", "By a LAW, of a SHOT, one TURNS: by the first line whose B is so");
        BangSquare s = new BangSquare();
        s.hearer(cell(30, 30), 0);
        s.shot(cell(40, 30), 0, NONE, 0);
        StringBuilder twelve = new StringBuilder();
        for (int i = 0; i < 11; i++) {
            twelve.append("turn no when 1=2;");
        }
        Check.text(s, 0, twelve + "turn bang when 1=1;");
        edge.due("the twelfth", s.turning(0, 0, 0), 0);
        Check.text(s, 0, "turn bang when 1=1;" + twelve);
        edge.due("the first of twelve", s.turning(0, 0, 0), 0);
        Check.text(s, 0, "turn no when 1=1; turn bang when 1=1;");
        edge.due("no stands first", s.turning(0, 0, 0), NONE);
        Check.text(s, 0, "turn wall when 1=1; turn bang when 1=1;");
        edge.due("a line for none such stands first, too", s.turning(0, 0, 0), NONE);
        Check.text(s, 0, "turn bang when 1=1; turn no when 1=1;");
        edge.due("bang stands first", s.turning(0, 0, 0), 0);
    }

    private static void sectorOfEach() {
        edge.says("Terms 2", "to the SECTOR from which comes (seen from the own CELL) the BANG, the CRACK");
        int[][] around = {{10, 0}, {10, 10}, {0, 10}, {-10, 10}, {-10, 0}, {-10, -10}, {0, -10}, {10, -10}};
        for (int sector = 0; sector < 8; sector++) {
            BangSquare s = new BangSquare();
            s.hearer(cell(30, 30), 0);
            s.shot(cell(30 + around[sector][0], 30 + around[sector][1]), 0, NONE, 0);
            Check.text(s, 0, "turn bang when 1=1;");
            edge.due("the bang", s.turning(0, 0, 0), sector);
        }
        BangSquare s = new BangSquare();
        s.hearer(cell(30, 30), 0);
        s.shot(cell(30, 30), 0, cell(50, 30), 50);
        s.shot(cell(10, 30), 0, cell(30, 30), 1);
        s.shot(cell(10, 20), 0, cell(59, 20), 1);
        Check.text(s, 0, "turn bang when 1=1;");
        Check.text(s, 1, "turn crack when 1=1;");
        edge.due("a bang at the own cell", s.turning(0, 0, 0), NONE);
        edge.due("a crack at the own cell", s.turning(1, 0, 0), NONE);
        edge.due("a ball that comes here cracks here", s.turning(1, 0, 1), NONE);
        edge.due("its bang does not", s.turning(0, 0, 1), 4);
        edge.due("a ball that goes by: its bang", s.turning(0, 0, 2), 4);
        edge.due("its crack", s.turning(1, 0, 2), 5);
    }

    private static void loudestBack() {
        edge.says("Terms 2", "the loudest one BACK (of several the least WALL)");
        BangSquare s = new BangSquare();
        s.hearer(cell(30, 30), 0);
        s.shot(cell(30, 30), 0, NONE, 0);
        Check.text(s, 0, "turn wall when 1=1;");
        s.wall(true, 50, 0, 59, 50);
        edge.due("the only one", s.turning(0, 0, 0), 0);
        s.wall(true, 10, 0, 59, 50);
        edge.due("as loud, but not the least", s.turning(0, 0, 0), 0);
        s.wall(false, 50, 0, 59, 49);
        edge.due("a hundredth louder", s.turning(0, 0, 0), 2);
        s.wall(false, 10, 0, 59, 49);
        edge.due("as loud again", s.turning(0, 0, 0), 2);
        s.wall(false, 11, 0, 59, 49);
        edge.due("nearer", s.turning(0, 0, 0), 6);
        s.wall(true, 29, 0, 20, 0);
        edge.due("one that doesn't come back isn't asked", s.turning(0, 0, 0), 6);
        BangSquare dull = new BangSquare();
        dull.hearer(cell(30, 30), 0);
        dull.shot(cell(30, 30), 0, NONE, 0);
        Check.text(dull, 0, "turn wall when 1=1;");
        dull.wall(true, 10, 0, 59, 100);
        dull.wall(true, 50, 0, 59, 100);
        edge.due("two of LOUD 0: the least", dull.turning(0, 0, 0), 4);
    }

    private static void none() {
        edge.says("Terms 2", "no, none such, or no line: NONE.");
        BangSquare s = new BangSquare();
        s.hearer(0, 0);
        s.shot(5, 0, NONE, 0);
        edge.due("no line", s.turning(0, 0, 0), NONE);
        Check.text(s, 0, "turn no when 1=1;");
        edge.due("no", s.turning(0, 0, 0), NONE);
        Check.text(s, 0, "turn crack when 1=1;");
        edge.due("no crack", s.turning(0, 0, 0), NONE);
        Check.text(s, 0, "turn wall when 1=1;");
        edge.due("no wall", s.turning(0, 0, 0), NONE);
        Check.text(s, 0, "turn bang when 1=2; turn bang when 2=1;");
        edge.due("no line that is so", s.turning(0, 0, 0), NONE);
    }

    /** A law's value as hearer 0 has it of shot 0. */
    private static void value(BangSquare s, String name, int want) {
        String number = want < 0 ? "0-" + -want : Integer.toString(want);
        Check.text(s, 3, "turn bang when " + name + "=" + number + ";");
        edge.due(name + " is " + want, s.turning(3, 0, 0) != NONE, true);
    }

    private static void values() {
        edge.says("Terms 2", "bang, crack: how LOUD (crack 0 without)");
        BangSquare s = new BangSquare();
        s.hearer(cell(20, 15), 0);
        s.shot(cell(10, 10), 99999, cell(20, 10), 10);
        value(s, "bang", 476);
        value(s, "crack", 1332);
        edge.says("Terms 2", "gap: the TIME of the BANG less that of the CRACK (0 without)");
        value(s, "gap", 11);
        edge.says("Terms 2", "near: DISTANCE to the SHOT.");
        value(s, "near", 11);
        edge.says("Terms 2", "walls: how many come BACK");
        value(s, "walls", 0);
        for (int w = 0; w < 10; w++) {
            s.wall(true, 40 + w, 0, 59, 0);
            value(s, "walls", w + 1);
        }
        edge.says("Terms 2", "wall: the loudest BACK (0 without)");
        // Off x = 40 the mirrored point is 70, 10: 50 off.
        value(s, "wall", 166);
        BangSquare far = new BangSquare();
        far.hearer(3599, 0);
        far.shot(0, 0, 1, 99);
        value(far, "near", 83);
        value(far, "bang", 107);
        value(far, "crack", 214);
        value(far, "gap", 0);
    }

    private static void valuesWithout() {
        BangSquare s = new BangSquare();
        s.hearer(cell(20, 15), 0);
        s.shot(cell(10, 10), 99999, NONE, 10);
        edge.says("Terms 2", "(crack 0 without)");
        value(s, "crack", 0);
        edge.says("Terms 2", "wall: the loudest BACK (0 without)");
        value(s, "wall", 0);
        edge.says("Terms 2", "gap: the TIME of the BANG less that of the CRACK (0 without)");
        value(s, "gap", 0);
        s.wall(true, 15, 0, 59, 0);
        edge.says("Terms 2", "walls: how many come BACK");
        value(s, "walls", 0);
        value(s, "wall", 0);
        s.wall(true, 40, 0, 59, 100);
        value(s, "walls", 1);
        value(s, "wall", 0);
    }

    // ---- stories ----

    private static BangSquare withShots(int n) {
        BangSquare s = new BangSquare();
        for (int i = 0; i < n; i++) {
            s.shot(i, 0, NONE, 0);
        }
        return s;
    }

    private static void storySets() {
        edge.says("Terms 2", "STORIES 0 .. 5 are sets of SHOTS.");
        edge.range("story", k -> withShots(1).story(k, 1), 0, 5);
        for (int n = 0; n <= 10; n++) {
            BangSquare s = withShots(n);
            edge.range("a set of " + n + " shots", set -> s.story(0, set), 0, (1 << n) - 1);
        }
    }

    private static void storyFits() {
        edge.says("Terms 2", "A STORY FITS a HEARER by a LAW, if one TURNS as one did for some SHOT of it.");
        BangSquare s = withShots(10);
        s.hearer(9, 4);
        s.hearer(0, 0);
        s.hearer(59, NONE);
        Check.text(s, 0, "turn bang when 1=1;");
        s.story(0, 512);
        edge.due("shot 9 is at the first one's own cell, to the right of the second", s.stories(0, 0), 1);
        s.story(0, 1);
        edge.due("shot 0 is at the second one's own cell, to the left of the first", s.stories(0, 0), 1);
        s.story(0, 513);
        edge.due("both", s.stories(0, 0), 2);
        s.story(0, 1023);
        edge.due("one fitting shot is enough, and one counts once", s.stories(0, 0), 2);
        s.story(0, 0);
        edge.due("without a shot none, not even who didn't turn", s.stories(0, 0), 0);
        s.story(0, 1);
        edge.due("by an empty law only who didn't turn", s.stories(1, 0), 1);
        BangSquare full = withShots(10);
        for (int h = 0; h < 20; h++) {
            full.hearer(59, 4);
        }
        Check.text(full, 2, "turn bang when 1=1;");
        full.story(5, 512);
        edge.due("all twenty", full.stories(2, 5), 20);
    }

    private static void theStory() {
        edge.says("Terms 2", "THE STORY: that which FITS most HEARERS (of those with a SHOT), of several the least.");
        BangSquare s = withShots(2);
        s.hearer(0, 0);
        s.hearer(1, NONE);
        Check.text(s, 0, "turn bang when 1=1;");
        for (int k = 5; k >= 0; k--) {
            s.story(k, 1);
            edge.due("as many: the least, " + k, s.stories(0, 6), k);
        }
        s.story(5, 2);
        edge.due("the most, though the last", s.stories(0, 6), 5);
        s.story(4, 3);
        edge.due("as many: the lesser", s.stories(0, 6), 4);
        BangSquare nobody = withShots(1);
        nobody.story(3, 1);
        edge.due("with a shot, though there is nobody", nobody.stories(0, 6), 3);
        nobody.story(3, 0);
        edge.due("emptied", nobody.stories(0, 6), NONE);
    }

    // ---- promises ----

    private static void promise12() {
        edge.says("Promise 12", "A HEARER: the number; NONE if one can't be, or there are 20.");
        BangSquare s = new BangSquare();
        for (int h = 0; h < 20; h++) {
            edge.due("refused ones have no number", s.hearer(h, 8), NONE);
            edge.due("hearer " + h, s.hearer(h, h % 9 - 1), h);
            edge.due("how many", s.look(2), h + 1);
        }
        edge.due("the 21st", s.hearer(0, 0), NONE);
        edge.due("still 20", s.look(2), 20);
    }

    private static void promise13() {
        edge.says("Promise 13", "The SECTOR to which a HEARER TURNS by a LAW, of a SHOT; NONE for none, or if one can't be.");
        BangSquare s = withShots(10);
        for (int h = 0; h < 20; h++) {
            s.hearer(20 + h, NONE);
        }
        for (int k = 0; k < 4; k++) {
            Check.text(s, k, "turn bang when 1=1;");
        }
        edge.range("law", v -> s.turning(v, 0, 0) == 4, 0, 3);
        edge.range("hearer", v -> s.turning(0, v, 0) == 4, 0, 19);
        edge.range("shot", v -> s.turning(0, 0, v) == 4, 0, 9);
        edge.due("no hearer", withShots(1).turning(0, 0, 0), NONE);
        BangSquare nothing = new BangSquare();
        nothing.hearer(0, 0);
        Check.text(nothing, 0, "turn bang when 1=1;");
        edge.due("no shot", nothing.turning(0, 0, 0), NONE);
        edge.due("which way one turned is not asked", s.turning(3, 19, 9), 4);
    }

    private static void promise14() {
        edge.says("Promise 14", "A STORY is a set of SHOTS (0 .. 1023): true; false if one can't be (SHOTS that are not there).");
        BangSquare s = withShots(10);
        edge.range("story", k -> s.story(k, 1023), 0, 5);
        edge.range("shots", set -> s.story(0, set), 0, 1023);
        edge.due("an empty one without a shot", new BangSquare().story(5, 0), true);
        edge.due("shot 0 without a shot", new BangSquare().story(5, 1), false);
        edge.due("shot 9 of nine", withShots(9).story(0, 512), false);
        edge.due("shot 1 of one, with shot 0", withShots(1).story(0, 3), false);
        BangSquare kept = withShots(1);
        kept.hearer(5, 4);
        Check.text(kept, 0, "turn bang when 1=1;");
        kept.story(2, 1);
        edge.due("refused", kept.story(2, 2), false);
        edge.due("refused, below 0", kept.story(2, -1), false);
        edge.due("and it is as it was", kept.stories(0, 2), 1);
        kept.shot(7, 0, NONE, 0);
        edge.due("now it can be", kept.story(2, 2), true);
        edge.due("and is another", kept.stories(0, 2), 0);
    }

    private static void promise15() {
        edge.says("Promise 15", "By a LAW what 0 .. 5 how many HEARERS that STORY FITS, 6 THE STORY (NONE if none has a SHOT).");
        BangSquare s = withShots(1);
        s.hearer(5, 4);
        for (int k = 0; k < 6; k++) {
            edge.due("a story that is not told", s.stories(0, k), 0);
        }
        edge.due("none has a shot", s.stories(0, 6), NONE);
        s.story(5, 0);
        edge.due("told, but empty", s.stories(0, 6), NONE);
        s.story(5, 1);
        edge.due("one has", s.stories(0, 6), 5);
        edge.says("Promise 15", "NONE if one can't be, or another what.");
        edge.range("what", v -> s.stories(0, v) != NONE, 0, 6);
        edge.range("law", v -> s.stories(v, 6) != NONE, 0, 3);
        edge.range("law of a count", v -> s.stories(v, 0) != NONE, 0, 3);
    }
}
