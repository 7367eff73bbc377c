/** Promises 16 to 24: ears and cells, clicks, couples, walls that must be there, voices. */
final class TapeTest {
    private static final int NONE = BangSquare.NONE;
    private static final Check check = new Check("TapeTest");

    public static void main(String[] args) {
        promise16();
        promise17();
        promise18();
        promise18Wind();
        promise19();
        promise20();
        promise20Wrong();
        promise21();
        promise22();
        promise23();
        promise24();
        check.close();
    }

    private static int cell(int x, int y) {
        return Check.cell(x, y);
    }

    private static void promise16() {
        BangSquare s = new BangSquare();
        check.due("cell -1", s.ear(-1), NONE);
        check.due("cell 3600", s.ear(3600), NONE);
        for (int i = 0; i < 8; i++) {
            check.due("ear " + i, s.ear(3599), i);
        }
        check.due("the ninth", s.ear(0), NONE);
    }

    private static void promise17() {
        BangSquare s = new BangSquare();
        check.due("no ear", s.got(0, 0, 0), false);
        check.due("no ear, nothing", s.got(0, NONE, 0), false);
        s.ear(0);
        check.due("ear -1", s.got(-1, 0, 0), false);
        check.due("ear 1", s.got(1, 0, 0), false);
        check.due("from -2", s.got(0, -2, 0), false);
        check.due("to below from", s.got(0, 5, 4), false);
        check.due("to 200000", s.got(0, 5, 200000), false);
        check.due("from 200000", s.got(0, 200000, 200000), false);
        check.due("the widest", s.got(0, 0, 199999), true);
        check.due("nothing", s.got(0, NONE, -77), true);
    }

    private static void promise18() {
        BangSquare s = new BangSquare();
        check.due("nobody got it: all", s.from(0), 3600);
        s.ear(cell(0, 0));
        s.ear(cell(59, 0));
        s.got(0, 0, 0);
        check.due("one ear: all, T may be below 0", s.from(0), 3600);
        s.got(1, 177, 177);
        // Only points whose distances differ by 59: level with both, at or behind the first, or nearly so.
        check.due("first", s.from(1), 0);
        check.due("how many", s.from(0), countByHand(0, 177));
        check.due("last", s.from(2), lastByHand(0, 177));
        s.got(1, 10, 20);
        check.due("a wider one", s.from(0), countByHand(10, 20));
        s.got(1, 178, 178);
        check.due("none", s.from(0), 0);
        check.due("no first", s.from(1), NONE);
        check.due("no last", s.from(2), NONE);
        s.got(1, 5, 4);
        check.due("what can't be changes nothing", s.from(0), 0);
        s.got(1, NONE, 0);
        check.due("nothing", s.from(0), 3600);
        check.due("what 3", s.from(3), NONE);
        check.due("what -1", s.from(-1), NONE);
    }

    private static boolean fitsByHand(int cell, int from, int to) {
        int x = cell % 60;
        int y = cell / 60;
        int near = 3 * (int) Math.sqrt(x * x + y * y);
        int far = 3 * (int) Math.sqrt((59 - x) * (59 - x) + y * y);
        return from == 0 ? far - near == to : far - near >= from && far - near <= to;
    }

    private static int countByHand(int from, int to) {
        int count = 0;
        for (int cell = 0; cell < 3600; cell++) {
            count += fitsByHand(cell, from, to) ? 1 : 0;
        }
        return count;
    }

    private static int lastByHand(int from, int to) {
        int last = NONE;
        for (int cell = 0; cell < 3600; cell++) {
            last = fitsByHand(cell, from, to) ? cell : last;
        }
        return last;
    }

    private static void promise18Wind() {
        BangSquare s = new BangSquare();
        s.ear(cell(10, 10));
        s.ear(cell(20, 10));
        s.ear(cell(10, 20));
        s.set(1, 8);
        // From 10, 10: 0, 30 less 10, 30.
        s.got(0, 1000, 1000);
        s.got(1, 1020, 1020);
        s.got(2, 1030, 1030);
        // 8, 8 has 4, 24, 34.
        check.due("first by wind", s.from(1), cell(8, 8));
        int count = 0;
        for (int c = 0; c < 3600; c++) {
            BangSquare by = new BangSquare();
            by.set(1, 8);
            int first = by.comes(c, cell(10, 10), 0);
            boolean second = by.comes(c, cell(20, 10), 0) == first + 20;
            count += second && by.comes(c, cell(10, 20), 0) == first + 30 ? 1 : 0;
        }
        check.due("by wind", s.from(0), count);
        s.set(1, 0);
        check.due("without wind it is not", s.from(1) == cell(8, 8), false);
    }

    private static void promise19() {
        BangSquare s = new BangSquare();
        check.due("tape -1", s.click(-1, 0), NONE);
        check.due("tape 4", s.click(4, 0), NONE);
        check.due("time -1", s.click(0, -1), NONE);
        check.due("time 200000", s.click(0, 200000), NONE);
        check.due("time 0", s.click(3, 0), 1);
        check.due("the same", s.click(3, 0), NONE);
        check.due("time 199999", s.click(3, 199999), 2);
        check.due("before it", s.click(3, 199998), NONE);
        for (int i = 0; i < 20; i++) {
            check.due("click " + i, s.click(0, i), i + 1);
        }
        check.due("the 21st", s.click(0, 100), NONE);
        check.due("another tape", s.click(1, 100), 1);
    }

    /** Spot 0 at 10, 10, spot 1 at 20, 10; bang after 30; off y = 0 after 3 * 22, off x = 0 after 3 * 30. */
    private static BangSquare twoWalls() {
        BangSquare s = new BangSquare();
        s.wall(false, 0, 0, 59, 0);
        s.wall(true, 0, 0, 59, 0);
        s.spot(0, cell(10, 10));
        s.spot(1, cell(20, 10));
        return s;
    }

    private static void promise20() {
        BangSquare s = twoWalls();
        s.click(0, 1000);
        check.due("bang alone", s.fits(0, 0, 1, 0), 1);
        check.due("out of", s.fits(0, 0, 1, 1), 3);
        s.click(0, 1030);
        check.due("36 is farther off than 5", s.fits(0, 0, 1, 0), 1);
        s.click(0, 1041);
        check.due("36 has 41", s.fits(0, 0, 1, 0), 2);
        s.set(3, 4);
        check.due("not by 4", s.fits(0, 0, 1, 0), 1);
        s.set(3, 6);
        check.due("36 has 30", s.fits(0, 0, 1, 0), 2);
        s.set(3, 0);
        s.click(0, 1060);
        check.due("60 has itself", s.fits(0, 0, 1, 0), 2);
        // With wind the bang alone is sooner: 30 less 10.
        s.set(1, 8);
        check.due("46 and 70 have none", s.fits(0, 0, 1, 0), 1);
        s.click(0, 1070);
        check.due("70 has one", s.fits(0, 0, 1, 0), 2);
        // The other way the bang is later, 40: 26 and 50.
        check.due("the other way", s.fits(0, 1, 0, 0), 1);
    }

    private static void promise20Wrong() {
        BangSquare s = twoWalls();
        check.due("no clicks", s.fits(0, 0, 1, 0), NONE);
        s.click(0, 5);
        check.due("the same", s.fits(0, 1, 1, 0), NONE);
        check.due("spot 2", s.fits(0, 2, 1, 0), NONE);
        check.due("ear at spot 2", s.fits(0, 1, 2, 0), NONE);
        check.due("spot -1", s.fits(0, -1, 1, 0), NONE);
        check.due("spot 10", s.fits(0, 0, 10, 0), NONE);
        check.due("tape 4", s.fits(4, 0, 1, 0), NONE);
        check.due("tape -1", s.fits(-1, 0, 1, 0), NONE);
        check.due("what 2", s.fits(0, 0, 1, 2), NONE);
        check.due("what -1", s.fits(0, 0, 1, -1), NONE);
        s.spot(2, cell(10, 10));
        check.due("two spots of one cell are two", s.fits(0, 0, 2, 1), 3);
    }

    private static void promise21() {
        BangSquare s = new BangSquare();
        s.click(0, 1000);
        check.due("no spots", s.couple(0, 0), NONE);
        s.spot(3, cell(10, 10));
        check.due("one spot", s.couple(0, 0), NONE);
        s.spot(7, cell(20, 10));
        s.spot(5, cell(50, 50));
        check.due("all alike: the least", s.couple(0, 0), 35);
        check.due("one click each", s.couple(0, 1), 1);
        check.due("six as well", s.couple(0, 2), 6);
        s.wall(false, 0, 0, 20, 0);
        // Off it all couples get a sound that has no click, but 5 and 7, whose crossing is at 25.
        check.due("fewest without", s.couple(0, 0), 57);
        s.wall(false, 0, 0, 59, 0);
        // Both walls: 3 to 7 and back get two; to 5 only the second one.
        s.click(0, 1036);
        check.due("most", s.couple(0, 0), 37);
        check.due("three", s.couple(0, 1), 3);
        check.due("as well", s.couple(0, 2), 2);
        check.due("what 3", s.couple(0, 3), NONE);
        check.due("what -1", s.couple(0, -1), NONE);
        check.due("no clicks", s.couple(1, 0), NONE);
        check.due("tape 4", s.couple(4, 0), NONE);
        check.due("tape -1", s.couple(-1, 0), NONE);
        fewestWithout();
    }

    private static void fewestWithout() {
        BangSquare s = new BangSquare();
        s.wall(false, 0, 15, 15, 0);
        s.spot(0, cell(10, 10));
        s.spot(1, cell(20, 10));
        s.spot(2, cell(40, 10));
        s.click(2, 1000);
        // 0 to 1 crosses at 15 and has no click there; 0 to 2 at 25 gets the bang alone.
        check.due("the fewest that have none", s.couple(2, 0), 2);
        check.due("as well counts those, too", s.couple(2, 2), 6);
    }

    private static void promise22() {
        BangSquare s = twoWalls();
        check.due("no clicks", s.must(0, 0, 1), NONE);
        s.click(0, 1000);
        check.due("none must", s.must(0, 0, 1), 0);
        s.click(0, 1036);
        check.due("wall 0", s.must(0, 0, 1), 1);
        s.click(0, 1060);
        check.due("both", s.must(0, 0, 1), 3);
        s.wall(false, 0, 0, 59, 0);
        check.due("of several the least set", s.must(0, 0, 1), 3);
        s.set(3, 24);
        check.due("wall 0 reaches both", s.must(0, 0, 1), 1);
        s.set(3, 60);
        check.due("the bang reaches all", s.must(0, 0, 1), 0);
        check.due("the same", s.must(0, 0, 0), NONE);
        check.due("spot 2", s.must(0, 0, 2), NONE);
        check.due("tape 4", s.must(4, 0, 1), NONE);
        fewerThoughGreater();
        BangSquare later = new BangSquare();
        later.spot(0, cell(10, 10));
        later.spot(1, cell(20, 10));
        later.wall(true, 50, 0, 59, 0);
        later.wall(true, 0, 0, 59, 0);
        later.click(0, 1000);
        later.click(0, 1060);
        check.due("wall 1 alone", later.must(0, 0, 1), 2);
    }

    private static void fewerThoughGreater() {
        BangSquare s = twoWalls();
        s.click(3, 1000);
        s.click(3, 1036);
        s.click(3, 1060);
        s.set(3, 12);
        check.due("36 and 60 by both", s.must(3, 0, 1), 3);
        // Off x = 37 the sound goes 44 cells and lies 102 behind; off x = 28 it goes 26 and lies 48 behind, 12 off both.
        s.wall(true, 37, 0, 59, 0);
        check.due("not by 102", s.must(3, 0, 1), 3);
        s.wall(true, 28, 0, 59, 0);
        check.due("48 has both, though its number is greater", s.must(3, 0, 1), 8);
    }

    private static void promise23() {
        BangSquare s = new BangSquare();
        check.due("tape 4", s.voice(4, 0, 0, 0), NONE);
        check.due("tape -1", s.voice(-1, 0, 0, 0), NONE);
        check.due("place -1", s.voice(0, -1, 0, 0), NONE);
        check.due("place 200000", s.voice(0, 200000, 0, 0), NONE);
        check.due("from -1", s.voice(0, 0, -1, 0), NONE);
        check.due("to 10000000", s.voice(0, 0, 0, 10000000), NONE);
        check.due("to below from", s.voice(0, 0, 5, 4), NONE);
        for (int i = 0; i < 10; i++) {
            check.due("voice " + i, s.voice(3, 199999, 0, 9999999), i);
        }
        check.due("the eleventh", s.voice(3, 0, 0, 0), NONE);
        check.due("another tape", s.voice(0, 0, 0, 0), 0);
    }

    private static void promise24() {
        BangSquare s = new BangSquare();
        check.due("no voices", s.over(0, 0), 1);
        check.due("none over", s.over(0, 1), NONE);
        s.voice(0, 1000, 0, 10);
        check.due("a number below 0", s.over(0, 0), 1);
        s.voice(0, 1010, 20, 30);
        check.due("-990 for both", s.over(0, 0), 1);
        s.voice(0, 1010, 21, 30);
        check.due("21 is too late", s.over(0, 0), 0);
        check.due("without 0 or 2: two, so none alone", s.over(0, 1), NONE);
        s.voice(0, 1010, 15, 20);
        check.due("none alone can go now: 0 1 3 fit without 2", s.over(0, 1), 2);
        BangSquare all = new BangSquare();
        all.voice(2, 0, 0, 0);
        all.voice(2, 0, 1, 1);
        check.due("can't", all.over(2, 0), 0);
        check.due("two such", all.over(2, 1), NONE);
        all.voice(2, 0, 2, 2);
        check.due("no such", all.over(2, 1), NONE);
        check.due("tape 4", all.over(4, 0), NONE);
        check.due("tape -1", all.over(-1, 0), NONE);
        check.due("what 2", all.over(0, 2), NONE);
        check.due("what -1", all.over(0, -1), NONE);
    }
}
