/** Promises 25, 26, 29, 30: noises sorted by rules, and the roofs on which ears tell most spots apart. */
final class NoiseTest {
    private static final int NONE = BangSquare.NONE;
    private static final Check check = new Check("NoiseTest");

    public static void main(String[] args) {
        promise25();
        promise26();
        promise26AheadBehind();
        promise29();
        promise30();
        check.close();
    }

    private static void promise25() {
        BangSquare s = new BangSquare();
        check.due("loud -1", s.noise(-1, 0, 0, 1), NONE);
        check.due("loud 10000", s.noise(10000, 0, 0, 1), NONE);
        check.due("long -1", s.noise(0, -1, 0, 1), NONE);
        check.due("long 1000", s.noise(0, 1000, 0, 1), NONE);
        check.due("time -1", s.noise(0, 0, -1, 1), NONE);
        check.due("time 200000", s.noise(0, 0, 200000, 1), NONE);
        check.due("truly 0", s.noise(0, 0, 0, 0), NONE);
        check.due("truly 4", s.noise(0, 0, 0, 4), NONE);
        for (int i = 0; i < 20; i++) {
            check.due("noise " + i, s.noise(9999, 999, 199999, 1 + i % 3), i);
        }
        check.due("the 21st", s.noise(0, 0, 0, 1), NONE);
    }

    private static void promise26() {
        BangSquare s = new BangSquare();
        s.noise(500, 10, 0, 1);
        s.noise(400, 20, 0, 1);
        s.noise(500, 30, 0, 2);
        s.noise(10, 10, 0, 3);
        check.due("empty rules send none", s.noises(0), 0);
        check.due("empty rules miss all", s.noises(1), 2);
        check.due("0 without", s.noises(10), 0);
        Check.text(s, 4, "board when loud<100; shot when loud=500; truck when long>15;");
        check.due("shot", s.noises(10), 1);
        check.due("truck", s.noises(11), 2);
        check.due("the first line", s.noises(12), 1);
        check.due("board", s.noises(13), 3);
        check.due("sent wrongly", s.noises(0), 1);
        check.due("missed", s.noises(1), 1);
        check.due("no such noise", s.noises(14), NONE);
        for (int what : new int[] {-1, 2, 9, 30, Integer.MIN_VALUE, Integer.MAX_VALUE}) {
            check.due("noises(" + what + ")", s.noises(what), NONE);
        }
    }

    private static void apartOf(BangSquare s, int i, int ahead, int behind) {
        Check.text(s, 4, "shot when ahead=" + ahead + " and behind=" + behind + ";");
        check.due("noise " + i + ": ahead " + ahead + ", behind " + behind, s.noises(10 + i), 1);
    }

    private static void promise26AheadBehind() {
        BangSquare s = new BangSquare();
        s.noise(0, 0, 5000, 1);
        apartOf(s, 0, 9999, 9999);
        s.noise(0, 0, 15000, 1);
        apartOf(s, 0, 9999, 9999);
        apartOf(s, 1, 9999, 9999);
        s.noise(0, 0, 14000, 1);
        apartOf(s, 0, 9999, 9000);
        apartOf(s, 1, 1000, 9999);
        apartOf(s, 2, 9000, 1000);
        s.noise(0, 0, 14000, 1);
        apartOf(s, 2, 9000, 0);
        apartOf(s, 3, 0, 1000);
        s.noise(0, 0, 14000, 1);
        apartOf(s, 3, 0, 0);
        apartOf(s, 4, 0, 1000);
        s.noise(0, 0, 4999, 1);
        apartOf(s, 0, 1, 9000);
        apartOf(s, 5, 9999, 1);
    }

    /** Spots in a row: 0, 10, 20 and 40 cells along, SLOW 1. */
    private static BangSquare row() {
        BangSquare s = new BangSquare();
        s.set(0, 1);
        s.spot(1, 0);
        s.spot(4, 10);
        s.spot(6, 20);
        s.spot(9, 40);
        return s;
    }

    private static void promise29() {
        BangSquare s = row();
        check.due("an empty set", s.apart(0, 0), 0);
        check.due("one ear", s.apart(2, 0), 0);
        // Ears at 0, 10: later -10, 10, 10, 10.
        check.due("only the first from the others", s.apart(2 + 16, 0), 3);
        check.due("doubt 19", s.apart(2 + 16, 19), 3);
        check.due("doubt 20", s.apart(2 + 16, 20), 0);
        // Ears at 0, 40: -40, -20, 0, 40.
        check.due("all", s.apart(2 + 512, 19), 6);
        check.due("by 20 no longer two", s.apart(2 + 512, 20), 4);
        check.due("by 40", s.apart(2 + 512, 40), 2);
        check.due("three ears", s.apart(2 + 16 + 64, 0), 5);
        s.set(1, 8);
        // Wind is the same for all: 10 less by 10 cells.
        check.due("wind", s.apart(2 + 16, 0), 3);
        check.due("a spot not told", s.apart(1, 0), NONE);
        check.due("-1", s.apart(-1, 0), NONE);
        check.due("1024", s.apart(1024, 0), NONE);
        check.due("doubt -1", s.apart(0, -1), NONE);
        check.due("doubt 1000", s.apart(0, 1000), NONE);
        check.due("doubt 999", s.apart(2 + 512, 999), 0);
        BangSquare same = new BangSquare();
        same.spot(0, 7);
        same.spot(1, 7);
        same.spot(2, 50);
        check.due("one cell is not told apart from itself", same.apart(7, 0), 2);
    }

    private static void promise30() {
        BangSquare s = row();
        check.due("two", s.roofs(2, 0), 2 + 512);
        check.due("three: the least that have all", s.roofs(3, 0), 2 + 16 + 512);
        check.due("four", s.roofs(4, 0), 2 + 16 + 64 + 512);
        check.due("not five", s.roofs(5, 0), NONE);
        check.due("nothing told apart: the least", s.roofs(2, 999), 2 + 16);
        check.due("k 1", s.roofs(1, 0), NONE);
        check.due("k 0", s.roofs(0, 0), NONE);
        check.due("k -1", s.roofs(-1, 0), NONE);
        check.due("doubt -1", s.roofs(2, -1), NONE);
        check.due("doubt 1000", s.roofs(2, 1000), NONE);
        for (int k = 0; k < 10; k++) {
            s.spot(k, 60 * k * k / 2 + 5 * k);
        }
        check.due("all ten told", s.apart(1023, 0), 45);
        check.due("six of ten", Integer.bitCount(s.roofs(6, 5)), 6);
        check.due("k 7", s.roofs(7, 0), NONE);
    }
}
