/** The boundary cases of ears, tapes, walls that must be there and voices in Terms 3, promises 16 to 24. */
final class EdgeTapeTest {
    private static final int NONE = BangSquare.NONE;
    private static final Edge edge = new Edge("EdgeTapeTest");

    public static void main(String[] args) {
        ears();
        gotTimes();
        fromCells();
        fromEnds();
        clicks();
        margin();
        bangOnFirstClick();
        outOfAll();
        theCouple();
        asWell();
        fewestWalls();
        voices();
        canBe();
        overAlone();
        promise16();
        promise17();
        promise18();
        promise19();
        promise20();
        promise21();
        promise22();
        promise23();
        promise24();
        edge.close();
    }

    private static int cell(int x, int y) {
        return Check.cell(x, y);
    }

    // ---- ears ----

    private static void ears() {
        edge.says("Terms 3", "EARS 0 .. 7 as they come, at CELLS.");
        edge.range("ear at", v -> new BangSquare().ear(v) == 0, 0, 3599);
        BangSquare s = new BangSquare();
        for (int i = 0; i < 8; i++) {
            edge.due("ear " + i, s.ear(i), i);
        }
        edge.due("no ear 8", s.ear(8), NONE);
        edge.range("got by", v -> s.got(v, 0, 0), 0, 7);
    }

    private static void gotTimes() {
        edge.says("Terms 3", "What each GOT of one sound may be told: from .. to, TIMES (0 .. 199999).");
        BangSquare s = new BangSquare();
        s.ear(0);
        edge.allowed("from .. 199999", v -> s.got(0, v, 199999), 0, 199999);
        edge.refused("from .. 199999", v -> s.got(0, v, 199999), -2, 200000, Integer.MIN_VALUE, Integer.MAX_VALUE);
        edge.range("0 .. to", v -> s.got(0, 0, v), 0, 199999);
        edge.range("77 .. to", v -> s.got(0, 77, v), 77, 199999);
        edge.refused("from 200000", v -> s.got(0, v, v), 200000);
    }

    private static void fromCells() {
        edge.says("Terms 3", "FROM: CELLS for which there is a whole number T so that, for all EARS that GOT it");
        BangSquare s = new BangSquare();
        edge.due("no ear: all", s.from(0), 3600);
        s.ear(0);
        s.ear(59);
        edge.due("ears that got nothing: all", s.from(0), 3600);
        s.got(0, 0, 0);
        edge.due("one that got it at 0: all, T below 0", s.from(0), 3600);
        s.got(0, 199999, 199999);
        edge.due("one that got it at 199999: all", s.from(0), 3600);
        s.got(1, 0, 0);
        edge.due("too far apart: none", s.from(0), 0);
        s.got(1, 0, 199999);
        // Some number of 0 .. 199999 for the second: 199999 less what the second is nearer, or more not.
        edge.due("those not farther from the second", s.from(1), 30);
        s.got(0, NONE, 0);
        edge.due("the first asks nothing", s.from(0), 3600);
        BangSquare all = new BangSquare();
        for (int i = 0; i < 8; i++) {
            all.ear(cell(i, 0));
            all.got(i, 1000 + 3 * i, 1000 + 3 * i);
        }
        edge.due("all eight: the first cell of the row", all.from(1), 0);
        all.got(7, 1000, 1000);
        edge.due("the eighth is asked, too", all.from(0), 0);
    }

    private static void fromEnds() {
        edge.says("Terms 3", "T and as SOUND COMES lies in theirs.");
        // Only from 0, 0 the sound comes to the one 177 later than to the other.
        BangSquare s = new BangSquare();
        s.ear(0);
        s.ear(59);
        s.got(0, 1000, 1000);
        s.got(1, 1177, 1177);
        edge.due("just there", s.from(1), 0);
        s.got(1, 1178, 1300);
        edge.due("one too late", s.from(0), 0);
        s.got(0, 1000, 1001);
        edge.due("one later for the first, too", s.from(1), 0);
        s.got(0, 999, 1000);
        edge.due("one sooner for the first doesn't help", s.from(0), 0);
        s.got(0, 1000, 1000);
        s.got(1, 700, 822);
        edge.due("one too soon", s.from(0), 0);
        s.got(1, 700, 823);
        edge.due("just there, from the other side", s.from(1), 59);
        s.got(0, 1000, 1001);
        s.got(1, 700, 822);
        edge.due("one later for the first doesn't help", s.from(0), 0);
        s.got(0, 999, 999);
        edge.due("one sooner for the first, too", s.from(1), 59);
        BangSquare last = new BangSquare();
        last.ear(3599);
        last.ear(cell(0, 59));
        last.got(0, 0, 0);
        last.got(1, 177, 177);
        edge.due("the last cell", last.from(2), 3599);
    }

    // ---- tapes ----

    private static void clicks() {
        edge.says("Terms 3", "TAPES 0 .. 3 have CLICKS (20 each; TIMES that rise).");
        edge.range("tape", v -> new BangSquare().click(v, 0) == 1, 0, 3);
        BangSquare s = new BangSquare();
        for (int tape = 0; tape <= 3; tape++) {
            for (int i = 0; i < 20; i++) {
                edge.due("click " + i, s.click(tape, i), i + 1);
                edge.due("the same doesn't rise", s.click(tape, i), NONE);
                edge.due("one less doesn't", s.click(tape, i - 1), NONE);
            }
            edge.due("the 21st", s.click(tape, 199999), NONE);
        }
    }

    /** Spot 0 at 10, 10, spot 1 at 20, 10: the bang after 30, off the level wall at y = 0 after 66, 36 behind it. */
    private static BangSquare oneWall() {
        BangSquare s = new BangSquare();
        s.wall(false, 0, 0, 59, 0);
        s.spot(0, cell(10, 10));
        s.spot(1, cell(20, 10));
        return s;
    }

    private static BangSquare allTapes() {
        BangSquare s = oneWall();
        for (int tape = 0; tape < 4; tape++) {
            s.click(tape, 1000);
        }
        return s;
    }

    private static int fitting(int margin, int... times) {
        BangSquare s = oneWall();
        if (margin >= 0) {
            s.set(3, margin);
        }
        for (int time : times) {
            s.click(0, time);
        }
        return s.fits(0, 0, 1, 0);
    }

    private static void margin() {
        edge.says("Terms 3", "have a CLICK not farther off than MARGIN (0 .. 99, 5 at first)");
        edge.range("MARGIN", v -> new BangSquare().set(3, v), 0, 99);
        edge.due("at first 5 sooner", fitting(-1, 100, 131), 2);
        edge.due("at first 6 sooner", fitting(-1, 100, 130), 1);
        edge.due("at first 5 later", fitting(-1, 100, 141), 2);
        edge.due("at first 6 later", fitting(-1, 100, 142), 1);
        edge.due("0, just there", fitting(0, 100, 136), 2);
        edge.due("0, one sooner", fitting(0, 100, 135), 1);
        edge.due("0, one later", fitting(0, 100, 137), 1);
        edge.due("99, 99 later", fitting(99, 1000, 1135), 2);
        edge.due("35 and the first click 36 off", fitting(35, 100), 1);
        edge.due("36 and the first click 36 off", fitting(36, 100), 2);
        edge.due("99 and 100 later, but the first click is nearer", fitting(99, 100, 236), 2);
        edge.due("any of twenty clicks, the last", fitting(0, 100, 101, 102, 103, 104, 105, 106, 107, 108, 109, 110, 111, 112,
                113, 114, 115, 116, 117, 118, 136), 2);
    }

    private static void bangOnFirstClick() {
        edge.says("Terms 3", "with the BANG laid on the first CLICK");
        edge.due("at 0", fitting(0, 0, 36), 2);
        edge.due("at 199963", fitting(0, 199963, 199999), 2);
        edge.due("not on the second", fitting(0, 0, 1, 37), 1);
        // Wind 9 against it: the bang after 59 + 67, off y = 0 after 59, 67 ahead of the bang.
        BangSquare s = new BangSquare();
        s.set(0, 1);
        s.set(1, -9);
        s.wall(false, 0, 0, 59, 0);
        s.spot(0, cell(0, 1));
        s.spot(1, cell(59, 1));
        s.click(0, 0);
        s.set(3, 66);
        edge.due("67 ahead of the tape's beginning", s.fits(0, 0, 1, 0), 1);
        edge.due("it gets it", s.fits(0, 0, 1, 1), 2);
        s.set(3, 67);
        edge.due("not farther off than 67", s.fits(0, 0, 1, 0), 2);
    }

    private static void outOfAll() {
        edge.says("Terms 3", "out of all that it GETS.");
        BangSquare s = new BangSquare();
        s.spot(0, cell(10, 10));
        s.spot(1, cell(20, 10));
        s.click(0, 50);
        for (int w = 0; w < 10; w++) {
            edge.due(w + " walls", s.fits(0, 0, 1, 1), 1 + w);
            edge.due("only the bang has a click", s.fits(0, 0, 1, 0), 1);
            s.wall(true, 50 + w, 0, 59, 0);
        }
        edge.due("ten walls", s.fits(0, 0, 1, 1), 11);
        s.wall(true, 0, 0, 59, 0);
        edge.due("still ten walls", s.fits(0, 0, 1, 1), 11);
        edge.says("Terms 3", "A couple of a SPOT of the SHOT (no BALL) and another one of the EAR FITS");
        s.ball(cell(20, 10), 1);
        edge.due("a ball of trials has nothing to do with it", s.fits(0, 0, 1, 1), 11);
    }

    private static void theCouple() {
        edge.says("Terms 3", "THE COUPLE of a TAPE: of all couples of unlike SPOTS that with most that have one, of several with the fewest that have none, then the least by SPOT of the SHOT, then of the EAR.");
        BangSquare s = new BangSquare();
        s.click(0, 1000);
        s.spot(9, cell(10, 10));
        edge.due("one spot", s.couple(0, 0), NONE);
        s.spot(8, cell(20, 10));
        edge.due("two: the least by SPOT of the SHOT", s.couple(0, 0), 89);
        s.spot(0, cell(50, 10));
        edge.due("three: then of the EAR", s.couple(0, 0), 8);
        // Crossings at y = 0: 9 and 8 at 15, 9 and 0 at 30, 8 and 0 at 35.
        s.wall(false, 0, 34, 36, 0);
        edge.due("0 and 8 have one without: 0 and 9", s.couple(0, 0), 9);
        s.wall(false, 0, 29, 31, 0);
        edge.due("0 and 9 have one without, too: 8 and 9", s.couple(0, 0), 89);
        s.wall(false, 0, 14, 16, 0);
        edge.due("all have one without", s.couple(0, 0), 8);
        s.click(0, 1036);
        edge.due("8 and 9 have one more", s.couple(0, 0), 89);
        edge.due("two", s.couple(0, 1), 2);
        // From 8 to 0 the bang takes 90, off y = 0 3 * 36: 18 behind it.
        s.click(0, 1037);
        s.set(3, 18);
        edge.due("by 18 those 18 behind have one, too", s.couple(0, 0), 8);
        mostGoesAhead();
    }

    private static void mostGoesAhead() {
        BangSquare s = oneWall();
        s.wall(true, 30, 0, 59, 0);
        s.wall(true, 31, 5, 59, 0);
        s.click(3, 1000);
        s.spot(5, cell(30, 0));
        edge.due("5 is on both lines: with 0 it gets the bang alone", s.fits(3, 0, 5, 1), 1);
        edge.due("the fewest without", s.couple(3, 0), 5);
        s.click(3, 1036);
        edge.due("0 and 1 have two, and two without", s.fits(3, 0, 1, 1), 4);
        edge.due("most goes ahead of the fewest without", s.couple(3, 0), 1);
        edge.due("how many have one", s.couple(3, 1), 2);
        edge.due("both ways", s.couple(3, 2), 2);
    }

    private static void asWell() {
        edge.says("Terms 3", "AS WELL: how many couples have as many that have one (it, too).");
        BangSquare s = new BangSquare();
        s.click(0, 1000);
        for (int k = 0; k < 10; k++) {
            s.spot(k, cell(5 * k, 10));
            edge.due("spots 0 .. " + k, s.couple(0, 2), k == 0 ? NONE : k * (k + 1));
        }
        s.wall(false, 0, 2, 3, 0);
        edge.due("those with one without, too", s.couple(0, 2), 90);
        // Off y = 0 to the next but one (10 cells): 36 behind; crossing at 5.
        s.wall(false, 0, 5, 5, 0);
        s.click(0, 1036);
        edge.due("only 0 and 2, both ways", s.couple(0, 2), 2);
        edge.due("the couple", s.couple(0, 0), 2);
    }

    private static void fewestWalls() {
        edge.says("Terms 3", "A WALL MUST BE THERE for a TAPE and a couple: THE FEWEST of all sets of WALLS by which just as many CLICKS (of all of it) have a sound of BANG and BACK not farther than MARGIN as by all; of several the least set.");
        BangSquare none = new BangSquare();
        none.spot(0, cell(10, 10));
        none.spot(1, cell(20, 10));
        none.click(0, 1000);
        edge.due("no walls: the empty set", none.must(0, 0, 1), 0);
        BangSquare s = oneWall();
        s.click(0, 1000);
        s.click(0, 1031);
        s.click(0, 1041);
        edge.due("5 off on both sides", s.must(0, 0, 1), 1);
        s.set(3, 4);
        edge.due("4 reaches neither", s.must(0, 0, 1), 0);
        s.set(3, 5);
        for (int w = 1; w < 9; w++) {
            s.wall(false, 0, 0, 59, 0);
            edge.due("as good ones: the least, " + w, s.must(0, 0, 1), 1);
        }
        s.wall(true, 0, 0, 59, 0);
        s.click(0, 1060);
        edge.due("the tenth is needed, too", s.must(0, 0, 1), 513);
        s.set(3, 31);
        edge.due("the bang reaches 1031 and wall 0 the rest", s.must(0, 0, 1), 1);
        s.set(3, 60);
        edge.due("the bang reaches all", s.must(0, 0, 1), 0);
        BangSquare beyond = oneWall();
        beyond.click(0, 1000);
        beyond.click(0, 1100);
        edge.due("a click that none reaches asks for none", beyond.must(0, 0, 1), 0);
        fewestNotLeast();
    }

    private static void fewestNotLeast() {
        BangSquare s = oneWall();
        s.wall(true, 0, 0, 59, 0);
        s.wall(true, 28, 0, 59, 0);
        s.click(0, 1000);
        s.click(0, 1036);
        s.click(0, 1060);
        s.set(3, 12);
        // 36 and 60 behind by walls 0 and 1; 48 by wall 2, 12 off both.
        edge.due("one wall, though its set is greater", s.must(0, 0, 1), 4);
        s.set(3, 11);
        edge.due("not by 11", s.must(0, 0, 1), 3);
    }

    // ---- voices ----

    private static void voices() {
        edge.says("Terms 3", "VOICES (10 a TAPE): a place on it (a TIME) was said at a true TIME from .. to (0 .. 9999999).");
        edge.range("tape", v -> new BangSquare().voice(v, 0, 0, 0) == 0, 0, 3);
        edge.range("place", v -> new BangSquare().voice(0, v, 0, 0) == 0, 0, 199999);
        edge.range("from", v -> new BangSquare().voice(0, 0, v, 9999999) == 0, 0, 9999999);
        edge.range("to", v -> new BangSquare().voice(0, 0, 0, v) == 0, 0, 9999999);
        edge.range("from of to 70", v -> new BangSquare().voice(0, 0, v, 70) == 0, 0, 70);
        edge.range("to of from 70", v -> new BangSquare().voice(0, 0, 70, v) == 0, 70, 9999999);
        BangSquare s = new BangSquare();
        for (int tape = 0; tape <= 3; tape++) {
            for (int i = 0; i < 10; i++) {
                edge.due("voice " + i, s.voice(tape, 0, 0, 0), i);
            }
            edge.due("the eleventh", s.voice(tape, 0, 0, 0), NONE);
        }
    }

    private static int can(int... voices) {
        BangSquare s = new BangSquare();
        for (int i = 0; i + 2 < voices.length; i += 3) {
            s.voice(1, voices[i], voices[i + 1], voices[i + 2]);
        }
        return s.over(1, 0);
    }

    private static void canBe() {
        edge.says("Terms 3", "A TAPE CAN BE, if there is one whole number, so that each VOICE's place and it lie in its from .. to.");
        edge.due("no voice", can(), 1);
        edge.due("one voice", can(0, 0, 0), 1);
        edge.due("a number below 0", can(199999, 0, 0), 1);
        edge.due("the greatest number", can(0, 9999999, 9999999), 1);
        edge.due("both at the ends", can(199999, 0, 0, 0, 9999999, 9999999), 0);
        edge.due("just one number", can(10, 100, 110, 20, 120, 130), 1);
        edge.due("one too late", can(10, 100, 110, 20, 121, 130), 0);
        edge.due("just one number, from the other side", can(20, 120, 130, 10, 100, 110), 1);
        edge.due("one too soon", can(20, 121, 130, 10, 100, 110), 0);
        edge.due("each two agree, and so do three", can(0, 0, 10, 0, 5, 15, 0, 10, 20), 1);
        edge.due("the third and the first don't", can(0, 0, 10, 0, 5, 15, 0, 11, 20), 0);
    }

    private static int alone(int... voices) {
        BangSquare s = new BangSquare();
        for (int i = 0; i + 2 < voices.length; i += 3) {
            s.voice(2, voices[i], voices[i + 1], voices[i + 2]);
        }
        return s.over(2, 1);
    }

    private static void overAlone() {
        edge.says("Terms 3", "OVER ALONE: the VOICE without which it CAN BE, if it can't with all, and there is just one such.");
        edge.due("no voice", alone(), NONE);
        edge.due("it can with all", alone(0, 0, 5, 0, 5, 9, 0, 5, 5), NONE);
        edge.due("two that don't agree: two such", alone(0, 0, 5, 0, 6, 9), NONE);
        edge.due("the first", alone(0, 0, 5, 0, 6, 9, 0, 9, 9), 0);
        edge.due("the second", alone(0, 6, 9, 0, 0, 5, 0, 9, 9), 1);
        edge.due("the last of three", alone(0, 6, 9, 0, 9, 9, 0, 0, 5), 2);
        edge.due("three that don't agree: none", alone(0, 0, 0, 0, 1, 1, 0, 2, 2), NONE);
        edge.due("two against two", alone(0, 0, 0, 0, 0, 0, 0, 1, 1, 0, 1, 1), NONE);
        int[] ten = new int[30];
        ten[28] = 1;
        ten[29] = 1;
        edge.due("the tenth of ten", alone(ten), 9);
    }

    // ---- promises ----

    private static void promise16() {
        edge.says("Promise 16", "An EAR: its number; NONE if one can't be, or there are eight.");
        BangSquare s = new BangSquare();
        for (int i = 0; i < 8; i++) {
            edge.due("refused ones have no number", s.ear(-1), NONE);
            edge.due("refused ones have no number", s.ear(3600), NONE);
            edge.due("ear " + i, s.ear(0), i);
            edge.due("how many", s.look(3), i + 1);
        }
        edge.due("the ninth", s.ear(0), NONE);
        edge.due("still eight", s.look(3), 8);
    }

    private static void promise17() {
        edge.says("Promise 17", "What an EAR GOT (from NONE: nothing): true; false if one can't be.");
        BangSquare s = new BangSquare();
        edge.due("no ear yet", s.got(0, 0, 0), false);
        edge.due("no ear yet, nothing", s.got(0, NONE, 0), false);
        s.ear(0);
        s.ear(59);
        edge.range("ear", v -> s.got(v, 5, 5), 0, 1);
        edge.range("ear, nothing", v -> s.got(v, NONE, 5), 0, 1);
        edge.allowed("nothing, to not asked", v -> s.got(0, NONE, v), NONE, 0, -2, 200000, Integer.MIN_VALUE, Integer.MAX_VALUE);
        s.got(0, 1000, 1000);
        s.got(1, 1177, 1177);
        int before = s.from(0);
        edge.due("some, not all", before > 0 && before < 3600, true);
        edge.due("refused", s.got(1, 5, 4), false);
        edge.due("refused", s.got(1, -2, 4), false);
        edge.due("refused", s.got(1, 0, 200000), false);
        edge.due("refused", s.got(2, 0, 0), false);
        edge.due("and it is as it was", s.from(0), before);
        s.got(1, NONE, 0);
        edge.due("nothing", s.from(0), 3600);
        s.got(1, 1178, 1178);
        edge.due("told anew", s.from(0), 0);
    }

    private static void promise18() {
        edge.says("Promise 18", "FROM: what 0 how many CELLS, 1 the first, 2 the last (as numbers).");
        BangSquare s = new BangSquare();
        edge.due("all", s.from(0), 3600);
        edge.due("the first of all", s.from(1), 0);
        edge.due("the last of all", s.from(2), 3599);
        s.ear(cell(10, 10));
        s.ear(cell(20, 10));
        s.ear(cell(10, 20));
        s.ear(cell(20, 20));
        for (int i = 0; i < 4; i++) {
            s.got(i, 500, 500);
        }
        // Alike far from all four: the middle, and cells for which the roots are alike.
        int count = 0;
        int first = NONE;
        int last = NONE;
        for (int c = 0; c < 3600; c++) {
            BangSquare by = new BangSquare();
            int way = by.comes(c, cell(10, 10), 0);
            boolean alike = by.comes(c, cell(20, 10), 0) == way && by.comes(c, cell(10, 20), 0) == way && by.comes(c, cell(20, 20), 0) == way;
            if (alike) {
                count++;
                first = first == NONE ? c : first;
                last = c;
            }
        }
        edge.due("how many", s.from(0), count);
        edge.due("the first", s.from(1), first);
        edge.due("the last", s.from(2), last);
        edge.says("Promise 18", "NONE if there is none (0 for 0), or another what.");
        edge.range("what", v -> s.from(v) != NONE, 0, 2);
        s.got(3, 0, 0);
        edge.due("none: 0 for 0", s.from(0), 0);
        edge.due("no first", s.from(1), NONE);
        edge.due("no last", s.from(2), NONE);
        edge.refused("what, with none", v -> s.from(v) != NONE, -1, 3, Integer.MIN_VALUE, Integer.MAX_VALUE);
    }

    private static void promise19() {
        edge.says("Promise 19", "A CLICK comes behind a TAPE: how many it has; NONE if one can't be (0 .. 199999, above the last one), or it has 20.");
        edge.range("time", v -> new BangSquare().click(0, v) == 1, 0, 199999);
        edge.range("time above 70", v -> {
            BangSquare s = new BangSquare();
            s.click(0, 70);
            return s.click(0, v) == 2;
        }, 71, 199999);
        edge.range("tape", v -> new BangSquare().click(v, 5) == 1, 0, 3);
        BangSquare s = new BangSquare();
        s.click(2, 100);
        edge.due("refused: too late", s.click(2, 200000), NONE);
        edge.due("refused: not above", s.click(2, 100), NONE);
        edge.due("the last is still 100", s.click(2, 101), 2);
        for (int i = 3; i <= 20; i++) {
            edge.due("click " + i, s.click(2, 200 + i), i);
        }
        edge.due("it has 20", s.click(2, 300), NONE);
        edge.due("another has none", s.click(3, 300), 1);
    }

    private static void promise20() {
        edge.says("Promise 20", "A couple of SPOTS for a TAPE: what 0 how many have a CLICK, 1 how many the EAR GETS.");
        BangSquare s = oneWall();
        s.click(3, 70);
        edge.due("how many have a click", s.fits(3, 0, 1, 0), 1);
        edge.due("how many it gets", s.fits(3, 0, 1, 1), 2);
        edge.says("Promise 20", "NONE if one can't be (the same; a TAPE without CLICKS), or another what.");
        s.spot(2, cell(10, 10));
        s.spot(9, cell(30, 10));
        edge.range("tape", v -> s.fits(v, 0, 1, 0) != NONE, 3, 3);
        edge.range("tape, all with a click", v -> allTapes().fits(v, 0, 1, 0) != NONE, 0, 3);
        edge.range("what", v -> s.fits(3, 0, 1, v) != NONE, 0, 1);
        for (int a = -1; a <= 10; a++) {
            for (int b = -1; b <= 10; b++) {
                boolean told = (a >= 0 && a <= 2 || a == 9) && (b >= 0 && b <= 2 || b == 9);
                edge.due("spots " + a + ", " + b, s.fits(3, a, b, 0) != NONE, told && a != b);
                edge.due("how many it gets", s.fits(3, a, b, 1) != NONE, told && a != b);
            }
        }
        edge.refused("shot's spot", v -> s.fits(3, v, 1, 0) != NONE, Integer.MIN_VALUE, Integer.MAX_VALUE);
        edge.refused("ear's spot", v -> s.fits(3, 1, v, 0) != NONE, Integer.MIN_VALUE, Integer.MAX_VALUE);
        edge.due("the same with all told", s.fits(3, 9, 9, 1), NONE);
    }

    private static void promise21() {
        edge.says("Promise 21", "THE COUPLE of a TAPE: what 0 10 times the SHOT's SPOT and the EAR's, 1 how many have a CLICK, 2 AS WELL.");
        BangSquare s = new BangSquare();
        s.spot(8, cell(20, 10));
        s.spot(9, cell(10, 10));
        s.click(0, 5);
        edge.due("8 and 9", s.couple(0, 0), 89);
        edge.due("the bang", s.couple(0, 1), 1);
        edge.due("both ways", s.couple(0, 2), 2);
        s.spot(0, cell(30, 10));
        edge.due("0 and 8", s.couple(0, 0), 8);
        edge.says("Promise 21", "NONE if there is none, one can't be, or another what.");
        edge.range("tape", v -> s.couple(v, 0) != NONE, 0, 0);
        edge.range("tape, all with a click", v -> allTapes().couple(v, 0) != NONE, 0, 3);
        edge.range("what", v -> s.couple(0, v) != NONE, 0, 2);
        BangSquare one = new BangSquare();
        one.click(0, 5);
        for (int what = 0; what <= 2; what++) {
            edge.due("no spot", one.couple(0, what), NONE);
        }
        one.spot(4, 4);
        for (int what = 0; what <= 2; what++) {
            edge.due("one spot", one.couple(0, what), NONE);
        }
        one.spot(5, 4);
        edge.due("two spots of one cell", one.couple(0, 0), 45);
        edge.due("a tape without clicks", one.couple(1, 0), NONE);
        edge.due("a tape without clicks, AS WELL", one.couple(3, 2), NONE);
    }

    private static void promise22() {
        edge.says("Promise 22", "THE FEWEST WALLS for a TAPE and a couple of SPOTS, as a set; NONE if one can't be (as for fits()).");
        BangSquare s = oneWall();
        edge.due("a tape without clicks", s.must(2, 0, 1), NONE);
        s.click(2, 1000);
        s.click(2, 1036);
        edge.due("wall 0", s.must(2, 0, 1), 1);
        s.spot(9, cell(50, 10));
        edge.range("tape", v -> s.must(v, 0, 1) != NONE, 2, 2);
        edge.range("tape, all with a click", v -> allTapes().must(v, 0, 1) != NONE, 0, 3);
        for (int a = -1; a <= 10; a++) {
            for (int b = -1; b <= 10; b++) {
                boolean told = (a == 0 || a == 1 || a == 9) && (b == 0 || b == 1 || b == 9);
                edge.due("spots " + a + ", " + b, s.must(2, a, b) != NONE, told && a != b);
            }
        }
        edge.refused("shot's spot", v -> s.must(2, v, 1) != NONE, Integer.MIN_VALUE, Integer.MAX_VALUE);
        edge.refused("ear's spot", v -> s.must(2, 1, v) != NONE, Integer.MIN_VALUE, Integer.MAX_VALUE);
        BangSquare tenth = new BangSquare();
        tenth.spot(0, cell(10, 10));
        tenth.spot(1, cell(20, 10));
        for (int w = 0; w < 9; w++) {
            tenth.wall(true, 15, 0, 59, 0);
        }
        tenth.wall(false, 0, 0, 59, 0);
        tenth.click(0, 0);
        tenth.click(0, 36);
        edge.due("the tenth alone", tenth.must(0, 0, 1), 512);
    }

    private static void promise23() {
        edge.says("Promise 23", "A VOICE: its number on the TAPE; NONE if one can't be, or there are ten.");
        BangSquare s = new BangSquare();
        for (int i = 0; i < 10; i++) {
            edge.due("refused ones have no number", s.voice(1, 0, 1, 0), NONE);
            edge.due("voice " + i, s.voice(1, 0, 5, 5), i);
        }
        edge.due("the eleventh", s.voice(1, 0, 6, 6), NONE);
        edge.due("nothing came", s.over(1, 0), 1);
        edge.due("on another tape", s.voice(2, 0, 6, 6), 0);
        edge.due("tapes don't lie over one another", s.over(2, 0), 1);
        edge.due("a tape without clicks may have one", s.voice(3, 199999, 0, 9999999), 0);
    }

    private static void promise24() {
        edge.says("Promise 24", "Of a TAPE what 0 1 if it CAN BE, else 0, 1 the VOICE that is OVER ALONE (NONE).");
        BangSquare s = new BangSquare();
        edge.due("it can", s.over(3, 0), 1);
        edge.due("none over", s.over(3, 1), NONE);
        s.voice(3, 0, 0, 0);
        s.voice(3, 0, 1, 1);
        edge.due("it can't", s.over(3, 0), 0);
        edge.due("not alone", s.over(3, 1), NONE);
        s.voice(3, 0, 1, 1);
        edge.due("it can't", s.over(3, 0), 0);
        edge.due("alone", s.over(3, 1), 0);
        edge.says("Promise 24", "NONE if one can't be, or another what.");
        edge.range("tape", v -> s.over(v, 0) != NONE, 0, 3);
        edge.range("tape, who is over", v -> s.over(v, 1) != NONE, 3, 3);
        edge.range("what", v -> s.over(3, v) != NONE, 0, 1);
    }
}
