/**
 * The clauses that a third reading found without a test of their own. Most are held over many places at once: the
 * answer that is due is worked out from the clause's own words and from the plainest call, comes().
 */
final class EdgeReadingTest {
    private static final int NONE = BangSquare.NONE;
    private static final Edge edge = new Edge("EdgeReadingTest");

    public static void main(String[] args) {
        distanceOfTwoPoints();
        slowTimesDistance();
        fromOnePointToAnother();
        crackOfAllPoints();
        mirroredPoint();
        straightWay();
        sectorsAllAround();
        fromByWind();
        soundsThatTheEarGets();
        setOfSpotsWithEars();
        fromBoth();
        bangTimeAndHowManyBack();
        edge.close();
    }

    private static int cell(int x, int y) {
        return Check.cell(x, y);
    }

    private static int root(int sum) {
        int root = 0;
        while ((root + 1) * (root + 1) <= sum) {
            root++;
        }
        return root;
    }

    private static int distance(int x, int y, int otherX, int otherY) {
        return root((x - otherX) * (x - otherX) + (y - otherY) * (y - otherY));
    }

    /** Cells all over the square, corners and borders among them. */
    private static int place(int i) {
        int[] first = {0, 59, cell(0, 59), cell(59, 59), cell(30, 30), cell(1, 58), cell(29, 0), cell(59, 31)};
        return i < first.length ? first[i] : (i * 1237 + 411) % 3600;
    }

    // ---- Terms ----

    private static void distanceOfTwoPoints() {
        edge.says("Terms", "DISTANCE of two points is the ROOT");
        for (int i = 0; i < 30; i++) {
            BangSquare s = new BangSquare();
            s.set(0, 1);
            for (int j = 0; j < 30; j++) {
                int a = place(i);
                int b = place(j);
                edge.due("of " + a + " and " + b, s.comes(a, b, 0), distance(a % 60, a / 60, b % 60, b / 60));
            }
        }
    }

    // ---- Terms 1 ----

    private static void slowTimesDistance() {
        edge.says("Terms 1", "it COMES in SLOW times DISTANCE");
        BangSquare s = new BangSquare();
        s.set(0, 9);
        edge.due("9 times the root of 2, not the root of 162", s.comes(0, cell(1, 1), 0), 9);
        edge.due("9 times the root of 8", s.comes(0, cell(2, 2), 0), 18);
        edge.due("9 times the root of 6962", s.comes(0, 3599, 0), 747);
        s.set(1, 1);
        // Less (1 by 8, downwards), not (9 less an eighth) downwards.
        edge.due("what is by 8 goes downwards ahead of it", s.comes(0, cell(1, 1), 0), 9);
        edge.due("and back: less -1", s.comes(cell(1, 1), 0, 0), 10);
    }

    private static void fromOnePointToAnother() {
        edge.says("Terms 1", "from a point to another one (dx, dy: the other less the first)");
        for (int wx = -9; wx <= 9; wx += 3) {
            for (int wy = -9; wy <= 9; wy += 2) {
                BangSquare s = new BangSquare();
                s.set(0, 2);
                s.set(1, wx);
                s.set(2, wy);
                for (int i = 0; i < 12; i++) {
                    int a = place(i);
                    int b = place(3 * i + 1);
                    int wind = wx * (b % 60 - a % 60) + wy * (b / 60 - a / 60);
                    int less = (wind - (wind % 8 + 8) % 8) / 8;
                    int way = 2 * distance(a % 60, a / 60, b % 60, b / 60);
                    edge.due("from " + a + " to " + b + " by " + wx + ", " + wy, s.comes(a, b, 0), Math.max(0, way - less));
                }
            }
        }
    }

    private static int down(int a, int n) {
        int rest = (a % n + n) % n;
        return (a - rest) / n;
    }

    /** A ball's points one by one, each with the time that comes() tells. */
    private static void crackOf(BangSquare s, int shot, int[] told, int ear) {
        int x = told[0] % 60;
        int y = told[0] / 60;
        int dx = told[2] % 60 - x;
        int dy = told[2] / 60 - y;
        int n = Math.max(Math.abs(dx), Math.abs(dy));
        int least = Integer.MAX_VALUE;
        int from = NONE;
        for (int k = 0; k <= n; k++) {
            int px = x + down(dx * k, n);
            int py = y + down(dy * k, n);
            int time = told[1] + told[3] * distance(x, y, px, py) / 10 + s.comes(cell(px, py), ear, 0);
            if (time < least) {
                least = time;
                from = cell(px, py);
            }
        }
        String call = "shot from " + told[0] + " at " + told[2] + " heard at " + ear;
        edge.due(call + ": the time", s.gets(shot, ear, 1), least);
        edge.due(call + ": the cell", s.gets(shot, ear, 2), from);
        edge.due(call + ": how LOUD", s.gets(shot, ear, 3), 2 * s.comes(from, ear, 1));
    }

    private static void crackOfAllPoints() {
        edge.says("Terms 1", "Its CRACK (with a BALL): of all points of its WAY the least TIME");
        int[] quicks = {1, 7, 10, 25, 29, 30, 31, 60, 99};
        for (int i = 0; i < 60; i++) {
            BangSquare s = new BangSquare();
            s.set(0, 1 + i % 9);
            s.set(1, i % 19 - 9);
            s.set(2, 7 * i % 19 - 9);
            int[] told = {place(i), 31 * i, place(i + 5), quicks[i % quicks.length]};
            s.shot(told[0], told[1], told[2], told[3]);
            for (int e = 0; e < 6; e++) {
                crackOf(s, 0, told, place(2 * i + e));
            }
        }
    }

    /** Shot, ear and wall as numbers, and what is due by the words: the time, or NONE. */
    private static int dueBack(boolean upright, int at, int a, int b, int shot, int ear, boolean time) {
        int x = upright ? shot % 60 : shot / 60;
        int y = upright ? shot / 60 : shot % 60;
        int earX = upright ? ear % 60 : ear / 60;
        int earY = upright ? ear / 60 : ear % 60;
        if ((x - at) * (earX - at) <= 0) {
            return NONE;
        }
        int mirrored = 2 * at - x;
        // At the line: y and (earY less y) times (at less mirrored) by (earX less mirrored), told times the divisor.
        int by = earX - mirrored;
        int turn = by < 0 ? -1 : 1;
        int crossing = turn * (y * by + (earY - y) * (at - mirrored));
        if (crossing < a * turn * by || crossing > b * turn * by) {
            return NONE;
        }
        int along = crossing / (turn * by);
        if (time) {
            return 3 * distance(mirrored, y, earX, earY);
        }
        return upright ? cell(at, along) : cell(along, at);
    }

    private static void mirroredPoint() {
        edge.says("Terms 1", "BACK off each WALL, of the BANG alone: the SHOT's CELL as in a mirror (upright: 2 X less x, y; level likewise):");
        for (int i = 0; i < 80; i++) {
            BangSquare s = new BangSquare();
            boolean upright = i % 2 == 0;
            int at = i * 7 % 60;
            s.wall(upright, at, 0, 59, 0);
            s.shot(place(i), 0, NONE, 0);
            for (int e = 0; e < 20; e++) {
                int ear = place(i + e);
                edge.due("off " + at + " from " + place(i) + " to " + ear, s.gets(0, ear, 10),
                        dueBack(upright, at, 0, 59, place(i), ear, true));
            }
        }
    }

    private static void straightWay() {
        edge.says("Terms 1", "it is BACK if the SHOT and the EAR are on the same side of the line and not on it, and the straight way from the mirrored point to the EAR crosses the line at a point between a and b");
        for (int i = 0; i < 120; i++) {
            BangSquare s = new BangSquare();
            boolean upright = i % 2 == 0;
            int at = i * 11 % 60;
            int a = i * 5 % 50;
            int b = a + i % 10;
            s.wall(upright, at, a, b, 0);
            s.shot(place(i), 0, NONE, 0);
            for (int e = 0; e < 40; e++) {
                int ear = place(3 * i + e);
                edge.due("off " + at + ", " + a + " .. " + b + " from " + place(i) + " to " + ear, s.gets(0, ear, 50),
                        dueBack(upright, at, a, b, place(i), ear, false));
            }
        }
    }

    private static int sector(int dx, int dy) {
        if (dx > 0 && dy >= 0) {
            return dy < dx ? 0 : 1;
        }
        if (dx <= 0 && dy > 0) {
            return dy > -dx ? 2 : 3;
        }
        return dx == 0 && dy == 0 ? NONE : 4 + sector(-dx, -dy);
    }

    private static void sectorsAllAround() {
        edge.says("Terms 1", "SECTOR of one point from another (dx, dy)");
        for (int dx = -59; dx <= 59; dx++) {
            BangSquare s = new BangSquare();
            for (int dy = -59; dy <= 59; dy++) {
                int seer = cell(Math.max(0, -dx), Math.max(0, -dy));
                int seen = cell(Math.max(0, dx), Math.max(0, dy));
                edge.due("of " + dx + ", " + dy, s.comes(seen, seer, 2), sector(dx, dy));
            }
        }
    }

    // ---- Terms 3 ----

    private static void fromByWind() {
        edge.says("Terms 3", "T and as SOUND COMES lies in theirs.");
        BangSquare s = new BangSquare();
        s.set(1, 5);
        s.set(2, -3);
        int[] ears = {cell(5, 5), cell(50, 8), cell(30, 52)};
        int shot = cell(20, 33);
        for (int i = 0; i < ears.length; i++) {
            s.ear(ears[i]);
            s.got(i, 700 + s.comes(shot, ears[i], 0), 702 + s.comes(shot, ears[i], 0));
        }
        int count = 0;
        int first = NONE;
        int last = NONE;
        for (int c = 0; c < 3600; c++) {
            BangSquare by = new BangSquare();
            by.set(1, 5);
            by.set(2, -3);
            int least = Integer.MIN_VALUE;
            int most = Integer.MAX_VALUE;
            for (int ear : ears) {
                int got = 700 + by.comes(shot, ear, 0) - by.comes(c, ear, 0);
                least = Math.max(least, got);
                most = Math.min(most, got + 2);
            }
            if (least <= most) {
                count++;
                first = first == NONE ? c : first;
                last = c;
            }
        }
        edge.due("the shot's own cell is among them", count > 0 && first <= shot && last >= shot, true);
        edge.due("how many, from the cell to the ear by wind", s.from(0), count);
        edge.due("the first", s.from(1), first);
        edge.due("the last", s.from(2), last);
    }

    private static void soundsThatTheEarGets() {
        edge.says("Terms 3", "how many of the sounds that the EAR GETS (BANG and BACK) have a CLICK");
        for (int i = 0; i < 30; i++) {
            BangSquare s = new BangSquare();
            s.set(1, i % 19 - 9);
            s.set(3, i % 20);
            for (int w = 0; w < 10; w++) {
                s.wall((w + i) % 2 == 0, w < 5 ? w : 59 - w, 0, 59 - w, 3 * w);
            }
            s.spot(3, place(i + 4));
            s.spot(7, place(2 * i + 9));
            s.shot(place(i + 4), 0, NONE, 0);
            int[] clicks = new int[20];
            for (int c = 0; c < 20; c++) {
                clicks[c] = 1000 + 17 * c + (c == 0 ? 0 : i % 17);
                s.click(1, clicks[c]);
            }
            int sounds = 1;
            int have = 1;
            for (int w = 0; w < 10; w++) {
                int back = s.gets(0, place(2 * i + 9), 10 + w);
                sounds += back == NONE ? 0 : 1;
                int laid = 1000 + back - s.gets(0, place(2 * i + 9), 0);
                boolean near = false;
                for (int click : clicks) {
                    near |= back != NONE && Math.abs(click - laid) <= i % 20;
                }
                have += near ? 1 : 0;
            }
            edge.due("how many have one, " + i, s.fits(1, 3, 7, 0), have);
            edge.due("how many it gets, " + i, s.fits(1, 3, 7, 1), sounds);
        }
    }

    // ---- Terms 4 ----

    private static void setOfSpotsWithEars() {
        edge.says("Terms 4", "ROOFS: a set of SPOTS with EARS tells two SPOTS apart");
        BangSquare s = new BangSquare();
        s.spot(2, cell(0, 0));
        s.spot(4, cell(10, 0));
        s.spot(6, cell(0, 10));
        edge.due("ears on 2 and 4", s.apart(20, 0), 3);
        edge.due("ears on 2 alone", s.apart(4, 0), 0);
        edge.due("no ears", s.apart(0, 0), 0);
        for (int i = 0; i < 8; i++) {
            s.ear(place(i));
            s.got(i, 100, 200);
        }
        edge.due("EARS that are told elsewhere are not on roofs", s.apart(4, 0), 0);
        edge.due("nor do they change what others tell", s.apart(20, 0), 3);
        edge.due("nor which roofs are best", s.roofs(2, 0), 20);
    }

    /** Couples told apart by the words, with times that comes() tells. */
    private static int dueApart(BangSquare s, int[] cells, int set, int doubt) {
        int count = 0;
        for (int p = 0; p < cells.length; p++) {
            for (int q = 0; q < p; q++) {
                boolean apart = false;
                for (int e = 0; e < cells.length; e++) {
                    for (int f = 0; f < e; f++) {
                        if ((set >> e & 1) != 0 && (set >> f & 1) != 0) {
                            int one = s.comes(cells[p], cells[e], 0) - s.comes(cells[p], cells[f], 0);
                            int other = s.comes(cells[q], cells[e], 0) - s.comes(cells[q], cells[f], 0);
                            apart |= Math.abs(one - other) > doubt;
                        }
                    }
                }
                count += apart ? 1 : 0;
            }
        }
        return count;
    }

    private static void fromBoth() {
        edge.says("Terms 4", "the TIMES by which the sound COMES later to the one than to the other, from both, are farther apart than a doubt");
        for (int i = 0; i < 40; i++) {
            BangSquare s = new BangSquare();
            BangSquare by = new BangSquare();
            int[] cells = {place(i), place(i + 3), place(2 * i + 1), place(i + 11)};
            // SLOW 1 and much wind: what goes downwards, and 0 at least, shows from where to where it comes.
            for (BangSquare one : new BangSquare[] {s, by}) {
                one.set(0, 1 + i % 2);
                one.set(1, i % 19 - 9);
                one.set(2, 5 * i % 19 - 9);
            }
            for (int k = 0; k < cells.length; k++) {
                s.spot(k, cells[k]);
            }
            int set = 3 + 4 * (i % 4);
            int doubt = 7 * i % 50;
            edge.due("set " + set + ", doubt " + doubt + ", " + i, s.apart(set, doubt), dueApart(by, cells, set, doubt));
        }
    }

    // ---- promise 7 ----

    private static void bangTimeAndHowManyBack() {
        edge.says("Promise 7", "What an EAR at a CELL GETS of a SHOT: what 0 the BANG's TIME, 1 the CRACK's (NONE without)");
        for (int i = 0; i < 20; i++) {
            BangSquare s = new BangSquare();
            s.set(0, 1 + i % 9);
            s.set(1, i % 19 - 9);
            s.set(2, 9 - i);
            s.shot(place(i), 5000 * i, NONE, 0);
            s.shot(place(i), 5000 * i, (place(i) + 1) % 3600, 1 + i);
            for (int e = 0; e < 20; e++) {
                int ear = place(i + e);
                int due = 5000 * i + s.comes(place(i), ear, 0);
                edge.due("the bang's time at " + ear, s.gets(0, ear, 0), due);
                edge.due("with a ball it is the same", s.gets(1, ear, 0), due);
                edge.due("no crack", s.gets(0, ear, 1), NONE);
                edge.due("a crack, not later than the bang", s.gets(1, ear, 1) != NONE && s.gets(1, ear, 1) <= due, true);
            }
        }
        edge.says("Promise 7", "4 how many BACK,");
        for (int i = 0; i < 20; i++) {
            BangSquare s = new BangSquare();
            for (int w = 0; w < 10; w++) {
                s.wall((w + i) % 2 == 0, 7 * (w + i) % 60, w, 40 + w, 10 * w);
            }
            s.shot(place(i), 0, (place(i) + 7) % 3600, 9);
            for (int e = 0; e < 20; e++) {
                int count = 0;
                for (int w = 0; w < 10; w++) {
                    count += s.gets(0, place(i + e), 10 + w) == NONE ? 0 : 1;
                }
                edge.due("as many as have a time, at " + place(i + e), s.gets(0, place(i + e), 4), count);
            }
        }
    }
}
