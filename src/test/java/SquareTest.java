/** Promises 1 to 7, 31: the square, how sound comes, walls, spots, shots and what an ear gets of them. */
final class SquareTest {
    private static final int NONE = BangSquare.NONE;
    private static final Check check = new Check("SquareTest");

    public static void main(String[] args) {
        promise1AndLook();
        promise2();
        promise3();
        promise3Sectors();
        promise4();
        promise5();
        promise6();
        promise7Crack();
        promise7CrackBackwards();
        promise7Back();
        promise7BackEnds();
        promise7TenWalls();
        promise7Wrong();
        check.close();
    }

    private static int cell(int x, int y) {
        return Check.cell(x, y);
    }

    private static void promise1AndLook() {
        BangSquare s = new BangSquare();
        for (int what = 0; what <= 5; what++) {
            check.due("look of a new one", s.look(what), 0);
        }
        check.due("look(6)", s.look(6), NONE);
        check.due("look(-1)", s.look(-1), NONE);
        check.due("look(MIN)", s.look(Integer.MIN_VALUE), NONE);
        check.due("SLOW at first", s.comes(0, 1, 0), 3);
        s.wall(true, 1, 1, 1, 1);
        s.wall(true, 1, 1, 1, 1);
        s.shot(0, 0, NONE, 0);
        s.hearer(0, 0);
        s.hearer(0, 0);
        s.hearer(0, 0);
        s.ear(0);
        s.noise(0, 0, 0, 1);
        s.noise(0, 0, 0, 1);
        s.spot(9, 0);
        s.spot(3, 0);
        s.spot(9, 5);
        check.due("walls", s.look(0), 2);
        check.due("shots", s.look(1), 1);
        check.due("hearers", s.look(2), 3);
        check.due("ears", s.look(3), 1);
        check.due("noises", s.look(4), 2);
        check.due("spots told twice are one", s.look(5), 2);
    }

    private static void promise2() {
        BangSquare s = new BangSquare();
        int[][] ranges = {{0, 1, 9}, {1, -9, 9}, {2, -9, 9}, {3, 0, 99}};
        for (int[] r : ranges) {
            check.due("least of " + r[0], s.set(r[0], r[1]), true);
            check.due("most of " + r[0], s.set(r[0], r[2]), true);
            check.due("below the least of " + r[0], s.set(r[0], r[1] - 1), false);
            check.due("above the most of " + r[0], s.set(r[0], r[2] + 1), false);
        }
        check.due("set(-1)", s.set(-1, 1), false);
        check.due("set(4)", s.set(4, 1), false);
        s.set(0, 2);
        s.set(0, 10);
        s.set(1, 0);
        s.set(2, 0);
        s.set(2, 10);
        check.due("what can't be changes nothing", s.comes(0, cell(0, 10), 0), 20);
    }

    private static void promise3() {
        BangSquare s = new BangSquare();
        check.due("distance goes down", s.comes(cell(0, 0), cell(1, 1), 0), 3);
        check.due("distance 83", s.comes(cell(0, 0), cell(59, 59), 0), 249);
        check.due("loud 83", s.comes(cell(0, 0), cell(59, 59), 1), 107);
        check.due("loud 0", s.comes(77, 77, 1), 1000);
        s.set(1, 3);
        s.set(2, -5);
        // 3 * 2 - 5 * 1 = 1 by 8 is 0; back it is -1 by 8, downwards -1.
        check.due("wind 1 by 8", s.comes(cell(0, 0), cell(2, 1), 0), 6);
        check.due("wind -1 by 8", s.comes(cell(2, 1), cell(0, 0), 0), 7);
        s.set(0, 1);
        s.set(1, 9);
        s.set(2, 9);
        check.due("0 at least", s.comes(cell(0, 0), cell(59, 59), 0), 0);
        // 18 * -59 = -1062 by 8 is -133.
        check.due("against the wind", s.comes(cell(59, 59), cell(0, 0), 0), 83 + 133);
        for (int bad : new int[] {-1, 3600, Integer.MIN_VALUE, Integer.MAX_VALUE}) {
            check.due("from no cell", s.comes(bad, 0, 0), NONE);
            check.due("to no cell", s.comes(0, bad, 0), NONE);
        }
        check.due("what 3", s.comes(0, 1, 3), NONE);
        check.due("what -1", s.comes(0, 1, -1), NONE);
    }

    private static void promise3Sectors() {
        BangSquare s = new BangSquare();
        int[][] seen = {
            {1, 0, 0}, {2, 1, 0}, {1, 1, 1}, {1, 2, 1}, {0, 1, 2}, {-1, 2, 2}, {-1, 1, 3}, {-2, 1, 3},
            {-1, 0, 4}, {-2, -1, 4}, {-1, -1, 5}, {-1, -2, 5}, {0, -1, 6}, {1, -2, 6}, {1, -1, 7}, {2, -1, 7},
            {0, 0, NONE}};
        for (int[] d : seen) {
            check.due("sector of " + d[0] + ", " + d[1], s.comes(cell(30 + d[0], 30 + d[1]), cell(30, 30), 2), d[2]);
        }
    }

    private static void promise4() {
        BangSquare s = new BangSquare();
        check.due("at -1", s.wall(true, -1, 0, 0, 0), NONE);
        check.due("at 60", s.wall(false, 60, 0, 0, 0), NONE);
        check.due("a -1", s.wall(true, 0, -1, 0, 0), NONE);
        check.due("b 60", s.wall(true, 0, 0, 60, 0), NONE);
        check.due("a above b", s.wall(true, 0, 6, 5, 0), NONE);
        check.due("dull -1", s.wall(true, 0, 0, 0, -1), NONE);
        check.due("dull 101", s.wall(true, 0, 0, 0, 101), NONE);
        for (int i = 0; i < 10; i++) {
            check.due("wall " + i, s.wall(i % 2 == 0, 59, 59, 59, 100), i);
        }
        check.due("the eleventh", s.wall(true, 0, 0, 0, 0), NONE);
        check.due("ten", s.look(0), 10);
    }

    private static void promise5() {
        BangSquare s = new BangSquare();
        check.due("spot -1", s.spot(-1, 0), false);
        check.due("spot 10", s.spot(10, 0), false);
        check.due("cell -1", s.spot(0, -1), false);
        check.due("cell 3600", s.spot(0, 3600), false);
        check.due("none told", s.look(5), 0);
        check.due("spot 0", s.spot(0, 0), true);
        check.due("spot 9", s.spot(9, 3599), true);
        check.due("spot 9 anew", s.spot(9, 5), true);
        check.due("a wrong one changes nothing", s.spot(9, -1), false);
        check.due("two told", s.look(5), 2);
    }

    private static void promise6() {
        BangSquare s = new BangSquare();
        check.due("cell 3600", s.shot(3600, 0, NONE, 0), NONE);
        check.due("cell -1", s.shot(-1, 0, NONE, 0), NONE);
        check.due("time -1", s.shot(0, -1, NONE, 0), NONE);
        check.due("time 100000", s.shot(0, 100000, NONE, 0), NONE);
        check.due("its own cell", s.shot(7, 0, 7, 1), NONE);
        check.due("aim -2", s.shot(7, 0, -2, 1), NONE);
        check.due("aim 3600", s.shot(7, 0, 3600, 1), NONE);
        check.due("quick 0", s.shot(7, 0, 8, 0), NONE);
        check.due("quick 100", s.shot(7, 0, 8, 100), NONE);
        check.due("quick not asked", s.shot(7, 0, NONE, -77), 0);
        check.due("quick 1", s.shot(0, 99999, 3599, 1), 1);
        check.due("quick 99", s.shot(0, 0, 3599, 99), 2);
        for (int i = 3; i < 10; i++) {
            check.due("shot " + i, s.shot(0, 0, NONE, 0), i);
        }
        check.due("the eleventh", s.shot(0, 0, NONE, 0), NONE);
    }

    private static void promise7Crack() {
        BangSquare s = new BangSquare();
        s.shot(cell(0, 0), 100, cell(10, 5), 10);
        // The way: 0,0 1,0 2,1 3,1 4,2 5,2 6,3 7,3 8,4 9,4 10,5.
        // To 10,3: 5,2 at 5 + 3 * 5; 6,3 at 6 + 3 * 4 = 18; 7,3 at 7 + 9 = 16; 8,4 at 8 + 3 * 2 = 14;
        // 9,4 at 9 + 3 * 1 = 12; 10,5 at 11 + 3 * 2 = 17.
        check.due("bang", s.gets(0, cell(10, 3), 0), 130);
        check.due("crack", s.gets(0, cell(10, 3), 1), 112);
        check.due("crack's cell", s.gets(0, cell(10, 3), 2), cell(9, 4));
        check.due("crack's loudness", s.gets(0, cell(10, 3), 3), 2 * 909);
        s.shot(cell(0, 0), 0, cell(10, 0), 30);
        check.due("the first of several", s.gets(1, cell(10, 0), 2), cell(0, 0));
        check.due("as late as the bang", s.gets(1, cell(10, 0), 1), 30);
        s.shot(cell(0, 0), 0, cell(10, 0), 99);
        check.due("a slow ball cracks where it starts", s.gets(2, cell(30, 0), 2), cell(0, 0));
        s.shot(cell(0, 0), 0, cell(10, 0), 5);
        // 5 * 3 by 10 is 1, downwards.
        check.due("flight goes down", s.gets(3, cell(3, 0), 1), 1);
        s.set(1, 8);
        check.due("wind is in the crack", s.gets(3, cell(20, 0), 1), 5 + 30 - 10);
        check.due("wind is in the bang", s.gets(3, cell(20, 0), 0), 40);
    }

    private static void promise7CrackBackwards() {
        BangSquare s = new BangSquare();
        s.shot(cell(10, 10), 0, cell(0, 7), 1);
        // Downwards: k = 1 is 9, 9 (10 - 3 by 10 downwards -1), not 9, 10.
        check.due("way downwards", s.gets(0, cell(9, 9), 2), cell(9, 9));
        check.due("time at it", s.gets(0, cell(9, 9), 1), 0);
        check.due("the end is on the way", s.gets(0, cell(0, 7), 2), cell(0, 7));
        check.due("9, 10 is not", s.gets(0, cell(9, 10), 2) == cell(9, 10), false);
    }

    private static void promise7Back() {
        BangSquare s = new BangSquare();
        s.set(1, 9);
        s.shot(cell(10, 20), 500, cell(50, 50), 10);
        check.due("no wall", s.gets(0, cell(14, 30), 10), NONE);
        s.wall(true, 6, 0, 59, 33);
        // Mirrored 2, 20; to 14, 30: root of 144 + 100 = 15; loud 400, 67 hundredths: 268; s 4, e 8: y 23.33.
        check.due("time", s.gets(0, cell(14, 30), 10), 545);
        check.due("loud", s.gets(0, cell(14, 30), 30), 268);
        check.due("cell", s.gets(0, cell(14, 30), 50), cell(6, 23));
        check.due("how many", s.gets(0, cell(14, 30), 4), 1);
        s.wall(false, 40, 0, 59, 100);
        // Mirrored 10, 60; root of 16 + 900 = 30; x: 10 * 10 + 14 * 20 by 30 = 12.67.
        check.due("level time", s.gets(0, cell(14, 30), 11), 590);
        check.due("level loud", s.gets(0, cell(14, 30), 31), 0);
        check.due("level cell", s.gets(0, cell(14, 30), 51), cell(12, 40));
        check.due("a dull one comes back, too", s.gets(0, cell(14, 30), 4), 2);
        check.due("ear on the line", s.gets(0, cell(6, 30), 10), NONE);
        check.due("ear beyond the line", s.gets(0, cell(5, 30), 10), NONE);
        s.wall(true, 10, 0, 59, 0);
        check.due("shot on the line", s.gets(0, cell(14, 30), 12), NONE);
        check.due("loud of none", s.gets(0, cell(14, 30), 32), NONE);
        check.due("cell of none", s.gets(0, cell(14, 30), 52), NONE);
        check.due("bang's own cell comes back", s.gets(0, cell(10, 20), 10), 500 + 3 * 8);
    }

    private static void promise7BackEnds() {
        BangSquare s = new BangSquare();
        s.shot(cell(10, 10), 0, NONE, 0);
        // To 20, 20 off x = 0: y = (10 * 20 + 20 * 10) by 30 = 13.33.
        s.wall(true, 0, 13, 14, 0);
        s.wall(true, 0, 14, 20, 0);
        s.wall(true, 0, 0, 13, 0);
        check.due("between", s.gets(0, cell(20, 20), 50), cell(0, 13));
        check.due("below a", s.gets(0, cell(20, 20), 51), NONE);
        check.due("above b as a fraction", s.gets(0, cell(20, 20), 52), NONE);
        // To 10, 20: y = 15.
        s.wall(true, 0, 15, 15, 0);
        s.wall(true, 0, 15, 59, 0);
        s.wall(true, 0, 0, 15, 0);
        check.due("one cell", s.gets(0, cell(10, 20), 53), cell(0, 15));
        check.due("the end a", s.gets(0, cell(10, 20), 54), cell(0, 15));
        check.due("the end b", s.gets(0, cell(10, 20), 55), cell(0, 15));
    }

    private static void promise7TenWalls() {
        BangSquare s = new BangSquare();
        s.shot(cell(10, 10), 0, NONE, 0);
        for (int w = 0; w < 10; w++) {
            s.wall(true, 50 + w, 0, 59, 10 * w);
        }
        // Off x = 59 the mirrored point is 108, 10; to 20, 10: 88; loud 102, 10 hundredths.
        check.due("time off wall 9", s.gets(0, cell(20, 10), 19), 264);
        check.due("loud off wall 9", s.gets(0, cell(20, 10), 39), 10);
        check.due("cell of wall 9", s.gets(0, cell(20, 10), 59), cell(59, 10));
        check.due("all ten", s.gets(0, cell(20, 10), 4), 10);
        check.due("what 20 is no wall", s.gets(0, cell(20, 10), 20), NONE);
    }

    private static void promise7Wrong() {
        BangSquare s = new BangSquare();
        s.shot(5, 77, NONE, 0);
        check.due("no ball, no crack", s.gets(0, 5, 1), NONE);
        check.due("no crack's cell", s.gets(0, 5, 2), NONE);
        check.due("no crack's loudness", s.gets(0, 5, 3), NONE);
        check.due("bang at its cell", s.gets(0, 5, 0), 77);
        check.due("none back", s.gets(0, 5, 4), 0);
        check.due("shot 1", s.gets(1, 5, 0), NONE);
        check.due("shot -1", s.gets(-1, 5, 0), NONE);
        check.due("cell 3600", s.gets(0, 3600, 0), NONE);
        for (int what : new int[] {-1, 5, 9, 20, 29, 40, 49, 60, Integer.MAX_VALUE, Integer.MIN_VALUE}) {
            check.due("gets what " + what, s.gets(0, 5, what), NONE);
        }
    }
}
