/** The boundary cases of noises in Terms 3, promises 25 and 26. */
final class EdgeNoiseTest {
    private static final int NONE = BangSquare.NONE;
    private static final Edge edge = new Edge("EdgeNoiseTest");

    public static void main(String[] args) {
        ranges();
        firstLine();
        values();
        aheadAndBehind();
        atOneTime();
        ninesAtMost();
        sentAndMissed();
        promise25();
        promise26();
        edge.close();
    }

    private static void ranges() {
        edge.says("Terms 3", "NOISES 0 .. 19 as they come: LOUD 0 .. 9999, LONG 0 .. 999, at a TIME 0 .. 199999, TRULY 1 shot, 2 truck, 3 board.");
        edge.range("LOUD", v -> new BangSquare().noise(v, 0, 0, 1) == 0, 0, 9999);
        edge.range("LONG", v -> new BangSquare().noise(0, v, 0, 1) == 0, 0, 999);
        edge.range("TIME", v -> new BangSquare().noise(0, 0, v, 1) == 0, 0, 199999);
        edge.range("TRULY", v -> new BangSquare().noise(0, 0, 0, v) == 0, 1, 3);
    }

    /** What noise i is by a condition: a board if it is so. */
    private static void holds(BangSquare s, int i, String condition) {
        Check.text(s, 4, "board when " + condition + ";");
        edge.due("noise " + i + ": " + condition, s.noises(10 + i), 3);
    }

    private static void firstLine() {
        edge.says("Terms 3", "By THE RULES one is what the first line tells whose B is so, 0 without");
        BangSquare s = new BangSquare();
        s.noise(5, 5, 5, 1);
        edge.due("no rules", s.noises(10), 0);
        Check.text(s, 4, "shot when 1=2; truck when 1=2; board when 1=2;");
        edge.due("no line that is so", s.noises(10), 0);
        Check.text(s, 4, "shot when 1=2; truck when 1=1; board when 1=1;");
        edge.due("the second", s.noises(10), 2);
        Check.text(s, 4, "shot when 1=1; truck when 1=1; board when 1=1;");
        edge.due("the first", s.noises(10), 1);
        Check.text(s, 4, "shot when 1=2;".repeat(11) + "board when 1=1;");
        edge.due("the twelfth", s.noises(10), 3);
    }

    private static void values() {
        edge.says("Terms 3", "loud, long; ahead, behind");
        BangSquare s = new BangSquare();
        s.noise(0, 0, 0, 1);
        s.noise(9999, 999, 199999, 3);
        holds(s, 0, "loud=0 and long=0");
        holds(s, 1, "loud=9999 and long=999");
    }

    private static void gaps(BangSquare s, int i, int ahead, int behind) {
        holds(s, i, "ahead=" + ahead + " and behind=" + behind);
    }

    private static void aheadAndBehind() {
        edge.says("Terms 3", "TIME since the next NOISE ahead of it, until the next one behind");
        BangSquare s = new BangSquare();
        s.noise(0, 0, 500, 1);
        s.noise(0, 0, 400, 1);
        s.noise(0, 0, 700, 1);
        s.noise(0, 0, 100, 1);
        gaps(s, 0, 100, 200);
        gaps(s, 1, 300, 100);
        gaps(s, 2, 200, 9999);
        gaps(s, 3, 9999, 300);
        s.noise(0, 0, 501, 1);
        gaps(s, 0, 100, 1);
        gaps(s, 4, 1, 199);
        gaps(s, 2, 199, 9999);
    }

    private static void atOneTime() {
        edge.says("Terms 3", "(by TIME, then number; 9999 at most, and without)");
        BangSquare s = new BangSquare();
        for (int i = 0; i < 20; i++) {
            s.noise(0, 0, 70, 1);
            gaps(s, i, i == 0 ? 9999 : 0, 9999);
        }
        gaps(s, 0, 9999, 0);
        gaps(s, 10, 0, 0);
        gaps(s, 18, 0, 0);
        BangSquare two = new BangSquare();
        two.noise(0, 0, 80, 1);
        two.noise(0, 0, 70, 1);
        two.noise(0, 0, 80, 1);
        two.noise(0, 0, 70, 1);
        gaps(two, 1, 9999, 0);
        gaps(two, 3, 0, 10);
        gaps(two, 0, 10, 0);
        gaps(two, 2, 0, 9999);
    }

    private static void ninesAtMost() {
        edge.says("Terms 3", "(by TIME, then number; 9999 at most, and without)");
        for (int gap : new int[] {9998, 9999, 10000, 199999}) {
            BangSquare s = new BangSquare();
            s.noise(0, 0, gap, 1);
            s.noise(0, 0, 0, 1);
            gaps(s, 0, Math.min(gap, 9999), 9999);
            gaps(s, 1, 9999, Math.min(gap, 9999));
        }
        BangSquare alone = new BangSquare();
        alone.noise(0, 0, 199999, 1);
        gaps(alone, 0, 9999, 9999);
    }

    private static void sentAndMissed() {
        edge.says("Terms 3", "SENT wrongly: told as shot and not TRULY; MISSED: TRULY shot and not told so.");
        // Each of what it is told as (0 .. 3) and what it is truly.
        for (int told = 0; told <= 3; told++) {
            for (int truly = 1; truly <= 3; truly++) {
                BangSquare s = new BangSquare();
                s.noise(0, 0, 0, truly);
                String[] lines = {"", "shot when 1=1;", "truck when 1=1;", "board when 1=1;"};
                Check.text(s, 4, lines[told]);
                edge.due("told " + told + ", truly " + truly + ": SENT", s.noises(0), told == 1 && truly != 1 ? 1 : 0);
                edge.due("told " + told + ", truly " + truly + ": MISSED", s.noises(1), told != 1 && truly == 1 ? 1 : 0);
            }
        }
        BangSquare full = new BangSquare();
        for (int i = 0; i < 20; i++) {
            full.noise(0, 0, 0, 2);
        }
        Check.text(full, 4, "shot when 1=1;");
        edge.due("all twenty sent wrongly", full.noises(0), 20);
        edge.due("none missed", full.noises(1), 0);
    }

    private static void promise25() {
        edge.says("Promise 25", "A NOISE: its number; NONE if one can't be, or there are 20.");
        BangSquare s = new BangSquare();
        for (int i = 0; i < 20; i++) {
            edge.due("refused ones have no number", s.noise(0, 0, 0, 0), NONE);
            edge.due("refused ones have no number", s.noise(0, 1000, 0, 1), NONE);
            edge.due("noise " + i, s.noise(i, i, i, 1 + i % 3), i);
            edge.due("how many", s.look(4), i + 1);
        }
        edge.due("the 21st", s.noise(0, 0, 0, 1), NONE);
        edge.due("still 20", s.look(4), 20);
    }

    private static void promise26() {
        edge.says("Promise 26", "Of NOISES what 0 SENT wrongly, 1 MISSED, 10 + i what NOISE i is by THE RULES.");
        BangSquare s = new BangSquare();
        edge.due("none yet: none sent", s.noises(0), 0);
        edge.due("none yet: none missed", s.noises(1), 0);
        edge.says("Promise 26", "NONE if there is none such, or another what.");
        edge.range("what without noises", v -> s.noises(v) != NONE, 0, 1);
        for (int i = 0; i < 20; i++) {
            edge.due("noise " + i + " is not there", s.noises(10 + i), NONE);
            s.noise(0, 0, 0, 1);
            edge.due("noise " + i + " is", s.noises(10 + i), 0);
        }
        for (int what = -40; what <= 60; what++) {
            boolean is = what == 0 || what == 1 || what >= 10 && what <= 29;
            edge.due("what " + what, s.noises(what) != NONE, is);
        }
        edge.refused("what", v -> s.noises(v) != NONE, Integer.MIN_VALUE, Integer.MAX_VALUE);
    }
}
