/** The boundary cases of Terms and Terms 1, promises 1 to 7 and 31, sentence by sentence. */
final class EdgeSquareTest {
    private static final int NONE = BangSquare.NONE;
    private static final Edge edge = new Edge("EdgeSquareTest");

    public static void main(String[] args) {
        quotients();
        cells();
        roots();
        slowAndWind();
        loud();
        walls();
        spots();
        shots();
        wayOfABall();
        bang();
        crack();
        backSides();
        backEnds();
        backTimeAndLoud();
        sectors();
        constants();
        promise1();
        promise2();
        promise3();
        promise4();
        promise5();
        promise6();
        promise7();
        promise31();
        edge.close();
    }

    private static int cell(int x, int y) {
        return Check.cell(x, y);
    }

    private static BangSquare withShot(int cell, int time, int aim, int quick) {
        BangSquare s = new BangSquare();
        s.shot(cell, time, aim, quick);
        return s;
    }

    // ---- Terms ----

    private static void quotients() {
        edge.says("Terms", "Quotients go downwards (to the lesser one).");
        BangSquare s = new BangSquare();
        s.set(1, 1);
        edge.due("7 by 8 is 0", s.comes(0, 7, 0), 21);
        edge.due("8 by 8 is 1", s.comes(0, 8, 0), 23);
        edge.due("15 by 8 is 1", s.comes(0, 15, 0), 44);
        edge.due("-1 by 8 is -1", s.comes(1, 0, 0), 4);
        edge.due("-8 by 8 is -1", s.comes(8, 0, 0), 25);
        edge.due("-9 by 8 is -2", s.comes(9, 0, 0), 29);
        edge.due("10000 by 93 is 107", s.comes(0, 3599, 1), 107);
    }

    private static void cells() {
        edge.says("Terms", "THE SQUARE has CELLS x, y 0 .. 59, told as 60 y + x, too.");
        BangSquare s = withShot(30, 0, NONE, 0);
        edge.range("comes from", v -> s.comes(v, 7, 0) != NONE, 0, 3599);
        edge.range("comes to", v -> s.comes(7, v, 0) != NONE, 0, 3599);
        edge.range("spot", v -> s.spot(0, v), 0, 3599);
        edge.range("shot", v -> new BangSquare().shot(v, 0, NONE, 0) == 0, 0, 3599);
        edge.range("gets", v -> s.gets(0, v, 0) != NONE, 0, 3599);
        edge.range("hearer", v -> new BangSquare().hearer(v, 0) == 0, 0, 3599);
        edge.range("ear", v -> new BangSquare().ear(v) == 0, 0, 3599);
        edge.allowed("shot at an aim", v -> new BangSquare().shot(7, 0, v, 1) == 0, 0, 3599);
        edge.refused("shot at an aim", v -> new BangSquare().shot(7, 0, v, 1) == 0, -2, 3600);
        edge.allowed("ball", v -> new BangSquare().ball(v, 1), 0, 3599);
        edge.refused("ball", v -> new BangSquare().ball(v, 1), -2, 3600);
        edge.due("59 is at the row's end", s.comes(0, 59, 0), 177);
        edge.due("60 is at the next row's beginning", s.comes(0, 60, 0), 3);
        edge.due("3599 is 59, 59", s.comes(cell(59, 59), 3599, 0), 0);
    }

    private static void roots() {
        edge.says("Terms", "DISTANCE of two points is the ROOT (the greatest whole number whose square is not above it)");
        int[][] roots = {{0, 0, 0}, {1, 0, 1}, {1, 1, 1}, {2, 0, 2}, {2, 2, 2}, {3, 0, 3}, {3, 4, 5}, {5, 1, 5}, {8, 4, 8},
            {9, 0, 9}, {9, 1, 9}, {12, 12, 16}, {17, 0, 17}, {59, 0, 59}, {59, 59, 83}};
        for (int[] r : roots) {
            BangSquare s = new BangSquare();
            s.set(0, 1);
            edge.due("root of " + r[0] + ", " + r[1], s.comes(0, cell(r[0], r[1]), 0), r[2]);
            edge.due("the other way", s.comes(cell(r[0], r[1]), 0, 0), r[2]);
        }
        edge.says("Terms", "of the sum of the squares of their differences.");
        for (int y = 0; y < 60; y++) {
            BangSquare s = new BangSquare();
            s.set(0, 1);
            for (int x = 0; x < 60; x++) {
                int root = s.comes(0, cell(x, y), 0);
                int sum = x * x + y * y;
                edge.due("root of " + sum, root * root <= sum && (root + 1) * (root + 1) > sum, true);
            }
        }
        BangSquare far = withShot(cell(59, 0), 0, NONE, 0);
        far.wall(true, 0, 0, 59, 0);
        edge.due("a mirrored point 118 and 49 off: 127", far.gets(0, cell(59, 49), 10), 381);
        edge.due("a mirrored point 118 and 50 off: 128", far.gets(0, cell(59, 50), 10), 384);
        edge.due("the farthest mirrored point, 118 and 59 off: 131", far.gets(0, cell(59, 59), 10), 393);
        for (int y = 0; y < 60; y++) {
            int root = far.gets(0, cell(59, y), 10) / 3;
            int sum = 118 * 118 + y * y;
            edge.due("root of " + sum, root * root <= sum && (root + 1) * (root + 1) > sum, true);
        }
    }

    // ---- Terms 1 ----

    private static void slowAndWind() {
        edge.says("Terms 1", "SOUND takes SLOW (1 .. 9, 3 at first) a CELL of DISTANCE; by WIND");
        edge.due("at first", new BangSquare().comes(0, 10, 0), 30);
        edge.range("set(0, v)", v -> new BangSquare().set(0, v), 1, 9);
        for (int v = 1; v <= 9; v++) {
            BangSquare s = new BangSquare();
            s.set(0, v);
            edge.due("SLOW " + v, s.comes(0, 10, 0), 10 * v);
        }
        edge.says("Terms 1", "WIND (wx, wy -9 .. 9, 0 at first)");
        edge.due("no wind at first", new BangSquare().comes(0, cell(8, 8), 0), 33);
        edge.range("set(1, v)", v -> new BangSquare().set(1, v), -9, 9);
        edge.range("set(2, v)", v -> new BangSquare().set(2, v), -9, 9);
        for (int v = -9; v <= 9; v++) {
            BangSquare s = new BangSquare();
            s.set(1, v);
            edge.due("wx " + v + " along x", s.comes(0, 8, 0), 24 - v);
            edge.due("wx " + v + " along y", s.comes(0, cell(0, 8), 0), 24);
            s.set(1, 0);
            s.set(2, v);
            edge.due("wy " + v + " along y", s.comes(0, cell(0, 8), 0), 24 - v);
            edge.due("wy " + v + " along x", s.comes(0, 8, 0), 24);
        }
        edge.says("Terms 1", "less (wx dx + wy dy) by 8, 0 at least.");
        BangSquare s = new BangSquare();
        s.set(0, 1);
        s.set(1, 7);
        edge.due("8 less 7", s.comes(0, 8, 0), 1);
        s.set(1, 8);
        edge.due("8 less 8", s.comes(0, 8, 0), 0);
        s.set(1, 9);
        edge.due("8 less 9", s.comes(0, 8, 0), 0);
        edge.due("59 less 66", s.comes(0, 59, 0), 0);
        s.set(2, 9);
        edge.due("the sum is parted, not each: 18 by 8 is 2", s.comes(cell(1, 1), 0, 0), 1 + 3);
        edge.due("against all wind", s.comes(3599, 0, 0), 83 + 133);
    }

    private static void loud() {
        edge.says("Terms 1", "LOUD it is 10000 by (DISTANCE and 10).");
        BangSquare s = new BangSquare();
        edge.due("at 0", s.comes(0, 0, 1), 1000);
        edge.due("at 1", s.comes(0, 1, 1), 909);
        edge.due("at 83", s.comes(0, 3599, 1), 107);
        for (int d = 0; d < 60; d++) {
            edge.due("at " + d, s.comes(0, d, 1), 10000 / (d + 10));
        }
        // 73 is a part of 10001, not of 10000.
        edge.due("at 63", s.comes(0, cell(23, 59), 1), 136);
        s.set(0, 9);
        s.set(1, 9);
        edge.due("neither by SLOW nor by WIND", s.comes(0, 10, 1), 500);
    }

    private static void walls() {
        edge.says("Terms 1", "WALLS 0 .. 9 as they come");
        BangSquare ten = new BangSquare();
        for (int w = 0; w <= 9; w++) {
            edge.due("wall " + w, ten.wall(true, w, 0, 59, 0), w);
        }
        edge.due("no wall 10", ten.wall(true, 10, 0, 59, 0), NONE);
        edge.says("Terms 1", "upright at an x from y a to b, or level at a y from x a to b");
        for (boolean upright : new boolean[] {true, false}) {
            edge.range("at, upright " + upright, v -> new BangSquare().wall(upright, v, 0, 59, 0) == 0, 0, 59);
            edge.range("a, upright " + upright, v -> new BangSquare().wall(upright, 0, v, 59, 0) == 0, 0, 59);
            edge.range("b, upright " + upright, v -> new BangSquare().wall(upright, 0, 0, v, 0) == 0, 0, 59);
        }
        edge.says("Terms 1", "(a not above b; a WALL stands for all these CELLS)");
        edge.range("a of b 30", v -> new BangSquare().wall(true, 0, v, 30, 0) == 0, 0, 30);
        edge.range("b of a 30", v -> new BangSquare().wall(true, 0, 30, v, 0) == 0, 30, 59);
        edge.says("Terms 1", "DULL 0 .. 100.");
        edge.range("dull", v -> new BangSquare().wall(true, 0, 0, 0, v) == 0, 0, 100);
    }

    private static void spots() {
        edge.says("Terms 1", "SPOTS 0 .. 9 (CELLS, told) are where somebody may have been.");
        edge.range("spot", v -> new BangSquare().spot(v, 0), 0, 9);
        BangSquare s = new BangSquare();
        for (int k = 9; k >= 0; k--) {
            edge.due("spot " + k, s.spot(k, k), true);
            edge.due("told", s.look(5), 10 - k);
        }
        edge.due("told anew", s.spot(0, 77), true);
        edge.due("still ten", s.look(5), 10);
    }

    private static void shots() {
        edge.says("Terms 1", "SHOTS 0 .. 9 as they come: a CELL, a TIME 0 .. 99999, a BALL: aimed at another CELL with QUICK 1 .. 99");
        edge.range("time", v -> new BangSquare().shot(0, v, NONE, 0) == 0, 0, 99999);
        edge.range("quick", v -> new BangSquare().shot(0, 0, 1, v) == 0, 1, 99);
        edge.due("at the least other cell", new BangSquare().shot(1, 0, 0, 1), 0);
        edge.due("at the cell next to it", new BangSquare().shot(1, 0, 2, 1), 0);
        edge.due("at its own", new BangSquare().shot(1, 0, 1, 1), NONE);
        edge.due("at its own cell 0", new BangSquare().shot(0, 0, 0, 1), NONE);
        edge.says("Terms 1", "(how long it takes for ten CELLS of DISTANCE), or none.");
        // Sound takes 9 a cell, so the ball's whole way comes first at its aim.
        for (int quick : new int[] {1, 10, 90}) {
            BangSquare s = withShot(0, 0, 10, quick);
            s.set(0, 9);
            edge.due("ten cells by " + quick, s.gets(0, 10, 1), quick);
        }
        edge.due("none", withShot(0, 0, NONE, 10).gets(0, 10, 1), NONE);
    }

    /** Whether a ball's way has a point: with a ball quicker than sound there nothing comes sooner to an ear than from it. */
    private static void onWay(int from, int aim, int x, int y, boolean want) {
        BangSquare s = withShot(from, 0, aim, 1);
        s.set(0, 9);
        edge.due("from " + from + " at " + aim + " by " + x + ", " + y, s.gets(0, cell(x, y), 2) == cell(x, y), want);
    }

    private static void wayOfABall() {
        edge.says("Terms 1", "THE WAY of a BALL: n the greater one of both differences (as far as from 0); its points k 0 .. n are x + dx k by n, y + dy k by n (downwards).");
        int middle = cell(30, 30);
        for (int[] p : new int[][] {{30, 30}, {31, 30}, {32, 31}, {33, 31}, {34, 32}}) {
            onWay(middle, cell(34, 32), p[0], p[1], true);
        }
        onWay(middle, cell(34, 32), 31, 31, false);
        // To the other side downwards is away from the middle: -1 by 2 is -1.
        for (int[] p : new int[][] {{30, 30}, {29, 29}, {28, 29}, {27, 28}, {26, 28}}) {
            onWay(middle, cell(26, 28), p[0], p[1], true);
        }
        onWay(middle, cell(26, 28), 29, 30, false);
        for (int[] p : new int[][] {{29, 31}, {29, 32}, {28, 33}, {28, 34}}) {
            onWay(middle, cell(28, 34), p[0], p[1], true);
        }
        onWay(middle, cell(28, 34), 30, 31, false);
        for (int[] p : new int[][] {{30, 29}, {31, 28}, {31, 27}, {32, 26}}) {
            onWay(middle, cell(32, 26), p[0], p[1], true);
        }
        onWay(middle, cell(31, 30), 31, 30, true);
        onWay(middle, cell(30, 29), 30, 29, true);
        onWay(middle, cell(30, 31), 30, 31, true);
        onWay(0, 3599, 59, 59, true);
        onWay(3599, 0, 0, 0, true);
        onWay(cell(59, 0), cell(0, 59), 0, 59, true);
        onWay(middle, cell(34, 32), 35, 32, false);
    }

    private static void bang() {
        edge.says("Terms 1", "What an EAR at a CELL GETS of a SHOT: its BANG, at TIME and as SOUND COMES from its CELL.");
        edge.due("at 0 where it is", withShot(5, 0, NONE, 0).gets(0, 5, 0), 0);
        edge.due("at 99999 where it is", withShot(5, 99999, NONE, 0).gets(0, 5, 0), 99999);
        BangSquare s = withShot(0, 99999, NONE, 0);
        s.set(0, 9);
        edge.due("beyond 99999", s.gets(0, 3599, 0), 99999 + 747);
        s.set(1, 8);
        edge.due("by wind", s.gets(0, 8, 0), 99999 + 72 - 8);
    }

    private static void crack() {
        edge.says("Terms 1", "the least TIME and QUICK times DISTANCE (from the SHOT's CELL) by 10 and as SOUND COMES from the point (the first of several): from there;");
        // By 30 for ten cells the ball is as quick as sound: each point up to the ear is as soon.
        BangSquare even = withShot(0, 0, 10, 30);
        edge.due("as quick as sound: the first", even.gets(0, 10, 2), 0);
        edge.due("its time", even.gets(0, 10, 1), 30);
        BangSquare slower = withShot(0, 0, 10, 31);
        edge.due("31 * 1 by 10 is 3: still the first", slower.gets(0, 10, 2), 0);
        BangSquare quicker = withShot(0, 0, 10, 29);
        // Point k: 29 k by 10 and 30 less 3 k: 30, 29, 29, 29, 29, ...; 10 has 29, too.
        edge.due("the first of those at 29", quicker.gets(0, 10, 2), 1);
        edge.due("at 29", quicker.gets(0, 10, 1), 29);
        BangSquare least = withShot(0, 0, 59, 1);
        edge.due("9 by 10 is 0", least.gets(0, 9, 1), 0);
        edge.due("10 by 10 is 1", least.gets(0, 10, 1), 1);
        edge.due("the aim's end", least.gets(0, 59, 1), 5);
        BangSquare turned = withShot(10, 7, 0, 10);
        edge.due("away from the ear it is the bang's time", turned.gets(0, 30, 1), 67);
        edge.due("from the shot's own cell", turned.gets(0, 30, 2), 10);
        edge.says("Terms 1", "LOUD it is twice what a BANG from there would be.");
        edge.due("where it is", least.gets(0, 30, 3), 2000);
        edge.due("twice 333, not 666 and a part", turned.gets(0, 30, 3), 666);
    }

    /** Whether a shot from one cell comes back to an ear off the wall at 30. */
    private static boolean isBack(boolean upright, int shotSide, int earSide) {
        BangSquare s = new BangSquare();
        s.shot(upright ? cell(shotSide, 10) : cell(10, shotSide), 0, NONE, 0);
        s.wall(upright, 30, 0, 59, 0);
        int ear = upright ? cell(earSide, 20) : cell(20, earSide);
        int count = s.gets(0, ear, 4);
        boolean back = s.gets(0, ear, 10) != NONE;
        edge.due("how many BACK", count, back ? 1 : 0);
        edge.due("how LOUD", s.gets(0, ear, 30) != NONE, back);
        edge.due("the crossing", s.gets(0, ear, 50) != NONE, back);
        return back;
    }

    private static void backSides() {
        edge.says("Terms 1", "it is BACK if the SHOT and the EAR are on the same side of the line and not on it");
        for (boolean upright : new boolean[] {true, false}) {
            edge.due("next to it, below", isBack(upright, 29, 29), true);
            edge.due("next to it, above", isBack(upright, 31, 31), true);
            edge.due("far and near", isBack(upright, 0, 29), true);
            edge.due("near and far", isBack(upright, 31, 59), true);
            edge.due("the shot on it", isBack(upright, 30, 29), false);
            edge.due("the shot on it, above", isBack(upright, 30, 31), false);
            edge.due("the ear on it", isBack(upright, 29, 30), false);
            edge.due("the ear on it, above", isBack(upright, 31, 30), false);
            edge.due("both on it", isBack(upright, 30, 30), false);
            edge.due("one on each side", isBack(upright, 29, 31), false);
            edge.due("one on each side, turned", isBack(upright, 31, 29), false);
        }
    }

    /** The crossing of a wall a .. b at 0, for a shot 10 off it at 10 and an ear 20 off it at some place along. */
    private static int crossing(boolean upright, int along, int a, int b) {
        BangSquare s = new BangSquare();
        s.shot(cell(10, 10), 0, NONE, 0);
        s.wall(upright, 0, a, b, 0);
        int got = s.gets(0, upright ? cell(20, along) : cell(along, 20), 50);
        return got == NONE ? NONE : upright ? got / 60 : got % 60;
    }

    private static void backEnds() {
        edge.says("Terms 1", "crosses the line at a point between a and b (both ends in; as a fraction).");
        for (boolean upright : new boolean[] {true, false}) {
            // Along 13 it crosses at 11, along 14 at 11 and a third, along 15 at 11 and two thirds.
            edge.due("a just there", crossing(upright, 13, 11, 59), 11);
            edge.due("b just there", crossing(upright, 13, 0, 11), 11);
            edge.due("both just there", crossing(upright, 13, 11, 11), 11);
            edge.due("a beyond it", crossing(upright, 13, 12, 59), NONE);
            edge.due("b ahead of it", crossing(upright, 13, 0, 10), NONE);
            edge.due("a third beyond b", crossing(upright, 14, 0, 11), NONE);
            edge.due("two thirds beyond b", crossing(upright, 15, 0, 11), NONE);
            edge.due("a third behind a", crossing(upright, 14, 11, 12), 11);
            edge.due("a third ahead of a", crossing(upright, 15, 12, 59), NONE);
            edge.due("two thirds behind a", crossing(upright, 15, 11, 12), 11);
            edge.due("level with it", crossing(upright, 10, 10, 10), 10);
            edge.due("to the other side a third ahead of 10", crossing(upright, 9, 10, 59), NONE);
        }
        edge.says("Terms 1", "from the CELL of the crossing (downwards)");
        edge.due("two thirds go down", crossing(true, 15, 0, 59), 11);
        edge.due("9 and two thirds go down", crossing(true, 9, 0, 59), 9);
        BangSquare s = withShot(cell(50, 10), 0, NONE, 0);
        s.wall(true, 59, 0, 59, 0);
        s.wall(false, 59, 0, 59, 0);
        edge.due("a cell on the upright wall", s.gets(0, cell(50, 11), 50), cell(59, 10));
        edge.due("a cell on the level wall", s.gets(0, cell(51, 10), 51), cell(50, 59));
    }

    private static void backTimeAndLoud() {
        edge.says("Terms 1", "It COMES at TIME and SLOW times DISTANCE from the mirrored point (no WIND)");
        BangSquare s = withShot(cell(10, 10), 99999, cell(11, 10), 1);
        s.wall(true, 30, 0, 59, 0);
        s.wall(true, 30, 0, 59, 1);
        s.wall(true, 30, 0, 59, 99);
        s.wall(true, 30, 0, 59, 100);
        s.set(0, 9);
        s.set(1, 9);
        s.set(2, -9);
        edge.due("wind 9, -9", s.gets(0, cell(10, 10), 10), 99999 + 360);
        edge.due("to a cell nearer to the wall", s.gets(0, cell(29, 10), 10), 99999 + 9 * 21);
        edge.says("Terms 1", "LOUD: 100 less DULL hundredths of what it would be from the mirrored point.");
        edge.due("DULL 0", s.gets(0, cell(10, 10), 30), 200);
        edge.due("DULL 1", s.gets(0, cell(10, 10), 31), 198);
        edge.due("DULL 99", s.gets(0, cell(10, 10), 32), 2);
        edge.due("DULL 100", s.gets(0, cell(10, 10), 33), 0);
        // 10000 by 31 is 322: 99 hundredths are 318.78, one is 3.22.
        edge.due("downwards", s.gets(0, cell(29, 10), 31), 318);
        edge.due("downwards of one", s.gets(0, cell(29, 10), 32), 3);
        edge.due("LOUD 0 is BACK, too", s.gets(0, cell(10, 10), 4), 4);
        edge.says("Terms 1", "BACK off each WALL, of the BANG alone");
        edge.due("the crack's time is another", s.gets(0, cell(29, 10), 1) < s.gets(0, cell(29, 10), 0), true);
        edge.due("the way is the bang's", s.gets(0, cell(29, 10), 10) - 99999, 189);
    }

    private static void sector(int dx, int dy, int want) {
        BangSquare s = new BangSquare();
        edge.due("of " + dx + ", " + dy, s.comes(cell(30 + dx, 30 + dy), cell(30, 30), 2), want);
        edge.due("of " + -dx + ", " + -dy, s.comes(cell(30 - dx, 30 - dy), cell(30, 30), 2), want == NONE ? NONE : 4 + want);
    }

    private static void sectors() {
        edge.says("Terms 1", "SECTOR of one point from another (dx, dy): 0 dx above 0, dy 0 or more, dy below dx");
        sector(1, 0, 0);
        sector(29, 0, 0);
        sector(2, 1, 0);
        sector(29, 28, 0);
        edge.says("Terms 1", "1 dx above 0, dy dx or more");
        sector(1, 1, 1);
        sector(29, 29, 1);
        sector(1, 2, 1);
        sector(1, 29, 1);
        edge.says("Terms 1", "2 dx 0 or less, dy above less dx");
        sector(0, 1, 2);
        sector(0, 29, 2);
        sector(-1, 2, 2);
        sector(-28, 29, 2);
        edge.says("Terms 1", "3 dx below 0, dy above 0, dy less dx or less");
        sector(-1, 1, 3);
        sector(-29, 29, 3);
        sector(-2, 1, 3);
        sector(-29, 1, 3);
        edge.says("Terms 1", "4 .. 7 likewise, turned by half; NONE for the same.");
        sector(0, 0, NONE);
        BangSquare s = new BangSquare();
        edge.due("-1, 0", s.comes(29, 30, 2), 4);
        edge.due("0, -1", s.comes(30, 90, 2), 6);
        edge.due("1, -1", s.comes(31, 90, 2), 7);
        edge.due("2, -1", s.comes(32, 90, 2), 7);
        edge.due("the same at 0", s.comes(0, 0, 2), NONE);
        edge.due("the same at 3599", s.comes(3599, 3599, 2), NONE);
    }

    private static void constants() {
        edge.says("Terms 4", "The constants: `NONE = -1`: None.");
        edge.due("NONE", BangSquare.NONE, -1);
    }

    // ---- promises ----

    private static void promise1() {
        edge.says("Promise 1", "An empty SQUARE.");
        BangSquare s = new BangSquare();
        for (int what = 0; what <= 5; what++) {
            edge.due("look(" + what + ")", s.look(what), 0);
        }
        edge.due("SLOW 3, no WIND", s.comes(0, cell(3, 4), 0), 15);
        edge.due("no bytes", s.end(1), false);
        edge.due("no fault", s.fault(0), 0);
        edge.due("no fault's place", s.fault(1), NONE);
        edge.due("no shot", s.gets(0, 0, 0), NONE);
        edge.due("no story", s.stories(0, 6), NONE);
        edge.due("nobody got a sound", s.from(0), 3600);
        for (int tape = 0; tape <= 3; tape++) {
            edge.due("no couple", s.couple(tape, 0), NONE);
            edge.due("no voice is over", s.over(tape, 1), NONE);
        }
        edge.due("no noise", s.noises(10), NONE);
        edge.due("nothing told apart", s.apart(0, 0), 0);
    }

    private static void promise2() {
        edge.says("Promise 2", "What 0 SLOW, 1 wx, 2 wy, 3 MARGIN: true; false if one can't be.");
        edge.range("set(what, 1)", what -> new BangSquare().set(what, 1), 0, 3);
        edge.range("set(3, v)", v -> new BangSquare().set(3, v), 0, 99);
        BangSquare s = new BangSquare();
        s.set(0, 2);
        s.set(1, 8);
        s.set(2, -8);
        for (int what = -1; what <= 4; what++) {
            edge.due("set(" + what + ", 100)", s.set(what, 100), false);
            edge.due("set(" + what + ", -10)", s.set(what, -10), false);
        }
        edge.due("a refused one leaves SLOW and wx", s.comes(0, 8, 0), 16 - 8);
        edge.due("a refused one leaves SLOW and wy", s.comes(0, cell(0, 8), 0), 16 + 8);
    }

    private static void promise3() {
        edge.says("Promise 3", "As SOUND COMES from a CELL to another one: what 0 the time, 1 how LOUD, 2 the SECTOR of the first seen from the other.");
        BangSquare s = new BangSquare();
        s.set(1, 8);
        edge.due("the time with the wind", s.comes(0, 10, 0), 20);
        edge.due("the time against it", s.comes(10, 0, 0), 40);
        edge.due("how LOUD", s.comes(0, 10, 1), 500);
        edge.due("the first is to the left", s.comes(0, 10, 2), 4);
        edge.due("the first is to the right", s.comes(10, 0, 2), 0);
        edge.says("Promise 3", "NONE if one can't be, or another what.");
        for (int what = 0; what <= 2; what++) {
            int w = what;
            edge.refused("from", v -> s.comes(v, 10, w) != NONE, -1, 3600, Integer.MIN_VALUE, Integer.MAX_VALUE);
            edge.refused("to", v -> s.comes(10, v, w) != NONE, -1, 3600, Integer.MIN_VALUE, Integer.MAX_VALUE);
        }
        edge.range("what", v -> s.comes(0, 10, v) != NONE, 0, 2);
    }

    private static void promise4() {
        edge.says("Promise 4", "A WALL: its number; NONE if one can't be, or there are ten.");
        BangSquare s = new BangSquare();
        for (int w = 0; w < 10; w++) {
            edge.due("refused ones have no number", s.wall(w % 2 == 0, 0, 1, 0, 0), NONE);
            edge.due("wall " + w, s.wall(w % 2 == 0, w, w, w, w), w);
            edge.due("walls", s.look(0), w + 1);
        }
        edge.due("the eleventh upright", s.wall(true, 0, 0, 0, 0), NONE);
        edge.due("the eleventh level", s.wall(false, 0, 0, 0, 0), NONE);
        edge.due("still ten", s.look(0), 10);
        edge.due("turned ends", new BangSquare().wall(true, 0, 59, 0, 0), NONE);
        edge.due("all out", new BangSquare().wall(true, Integer.MIN_VALUE, Integer.MAX_VALUE, Integer.MIN_VALUE, -1), NONE);
    }

    private static void promise5() {
        edge.says("Promise 5", "A SPOT is a CELL: true; false if one can't be.");
        BangSquare s = new BangSquare();
        edge.due("spot 0", s.spot(0, 0), true);
        edge.due("spot 9", s.spot(9, 3599), true);
        edge.due("NONE is no cell: it stays told", s.spot(0, NONE), false);
        edge.due("two", s.look(5), 2);
        edge.due("two spots of one cell", s.spot(1, 0), true);
        edge.due("three", s.look(5), 3);
        s.click(0, 5);
        s.wall(true, 30, 0, 59, 0);
        edge.due("spot 0 is still cell 0, one with spot 1: BANG and BACK", s.fits(0, 0, 1, 1), 2);
        edge.due("refused", s.spot(1, 3600), false);
        edge.due("and it is as it was", s.fits(0, 0, 1, 1), 2);
        edge.due("spot 1 anew, beyond the wall", s.spot(1, 59), true);
        edge.due("its new cell counts", s.fits(0, 0, 1, 1), 1);
    }

    private static void promise6() {
        edge.says("Promise 6", "A SHOT (aim NONE: no BALL, QUICK not asked): its number; NONE if one can't be (aimed at its own CELL), or there are ten.");
        edge.allowed("QUICK not asked", v -> new BangSquare().shot(0, 0, NONE, v) == 0, 0, -1, 100, Integer.MIN_VALUE, Integer.MAX_VALUE);
        edge.refused("aim", v -> new BangSquare().shot(0, 0, v, 5) == 0, 0, -2, 3600, Integer.MIN_VALUE, Integer.MAX_VALUE);
        BangSquare s = new BangSquare();
        for (int i = 0; i < 10; i++) {
            edge.due("refused ones have no number", s.shot(i, 0, i, 5), NONE);
            edge.due("shot " + i, s.shot(i, i, i + 1, 5), i);
            edge.due("shots", s.look(1), i + 1);
        }
        edge.due("the eleventh", s.shot(0, 0, 1, 5), NONE);
        edge.due("the eleventh without a ball", s.shot(0, 0, NONE, 5), NONE);
        edge.due("still ten", s.look(1), 10);
        edge.due("the last is as it was", s.gets(9, 9, 0), 9);
        edge.due("no shot 10", s.gets(10, 9, 0), NONE);
    }

    private static void promise7() {
        edge.says("Promise 7", "10 + w the TIME of that off WALL w, 30 + w how LOUD, 50 + w the CELL of its crossing (NONE if it is none).");
        for (int walls = 0; walls <= 10; walls++) {
            BangSquare s = withShot(cell(10, 10), 5, cell(12, 10), 5);
            for (int w = 0; w < walls; w++) {
                s.wall(true, 40 + w, 0, 59, 0);
            }
            edge.due("4 how many BACK", s.gets(0, cell(20, 10), 4), walls);
            for (int w = 0; w < 10; w++) {
                edge.due(walls + " walls, the time off " + w, s.gets(0, cell(20, 10), 10 + w), w < walls ? 5 + 3 * (50 + 2 * w) : NONE);
                edge.due("how loud", s.gets(0, cell(20, 10), 30 + w), w < walls ? 10000 / (60 + 2 * w) : NONE);
                edge.due("the cell", s.gets(0, cell(20, 10), 50 + w), w < walls ? cell(40 + w, 10) : NONE);
            }
        }
        // A wall that is not there yet has no cell, not even 0, 0.
        for (int[] ends : new int[][] {{cell(0, 10), cell(0, 20)}, {cell(10, 0), cell(20, 0)}, {cell(10, 0), cell(10, 0)}}) {
            BangSquare bare = withShot(ends[0], 0, NONE, 0);
            edge.due("no wall, none BACK", bare.gets(0, ends[1], 4), 0);
            edge.due("no wall 0", bare.gets(0, ends[1], 10), NONE);
        }
        edge.says("Promise 7", "1 the CRACK's (NONE without), 2 the CELL from which the CRACK comes, 3 how LOUD it is");
        BangSquare without = withShot(0, 0, NONE, 5);
        edge.due("time without", without.gets(0, 10, 1), NONE);
        edge.due("cell without", without.gets(0, 10, 2), NONE);
        edge.due("loud without", without.gets(0, 10, 3), NONE);
        edge.says("Promise 7", "NONE if one can't be, or another what.");
        BangSquare s = withShot(cell(10, 10), 5, cell(12, 10), 5);
        for (int w = 0; w < 10; w++) {
            s.wall(true, 40 + w, 0, 59, 0);
        }
        for (int what = -70; what <= 130; what++) {
            boolean is = what >= 0 && what <= 4 || what >= 10 && what <= 19 || what >= 30 && what <= 39 || what >= 50 && what <= 59;
            edge.due("what " + what, s.gets(0, cell(20, 10), what) != NONE, is);
        }
        edge.refused("what", v -> s.gets(0, 0, v) != NONE, Integer.MIN_VALUE, Integer.MAX_VALUE);
        edge.range("shot", v -> s.gets(v, 0, 0) != NONE, 0, 0);
        edge.range("cell", v -> s.gets(0, v, 0) != NONE, 0, 3599);
        edge.due("no shot yet", new BangSquare().gets(0, 0, 0), NONE);
    }

    private static void promise31() {
        edge.says("Promise 31", "What 0 WALLS, 1 SHOTS, 2 HEARERS, 3 EARS, 4 NOISES, 5 SPOTS that are told.");
        BangSquare s = new BangSquare();
        int[] most = {10, 10, 20, 8, 20, 10};
        for (int i = 1; i <= 22; i++) {
            s.wall(true, 0, 0, 0, 0);
            s.shot(0, 0, NONE, 0);
            s.hearer(0, 0);
            s.ear(0);
            s.noise(0, 0, 0, 1);
            s.spot(10 - i, 0);
            for (int what = 0; what <= 5; what++) {
                edge.due("look(" + what + ") after " + i, s.look(what), Math.min(i, most[what]));
            }
        }
        edge.says("Promise 31", "NONE for another what.");
        edge.range("what", v -> s.look(v) != NONE, 0, 5);
        edge.range("what of a new one", v -> new BangSquare().look(v) == 0, 0, 5);
    }
}
