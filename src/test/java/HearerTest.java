/** Promises 12 to 15, 27, 28: hearers, how they turn, stories, and trials that part laws. */
final class HearerTest {
    private static final int NONE = BangSquare.NONE;
    private static final Check check = new Check("HearerTest");

    public static void main(String[] args) {
        promise12();
        promise13Values();
        promise13Arithmetic();
        promise13Turns();
        promise13Walls();
        promise13Wrong();
        promise14();
        promise15();
        promise27();
        promise28();
        promise28Ball();
        check.close();
    }

    private static int cell(int x, int y) {
        return Check.cell(x, y);
    }

    private static void promise12() {
        BangSquare s = new BangSquare();
        check.due("cell -1", s.hearer(-1, 0), NONE);
        check.due("cell 3600", s.hearer(3600, 0), NONE);
        check.due("turned -2", s.hearer(0, -2), NONE);
        check.due("turned 8", s.hearer(0, 8), NONE);
        for (int i = 0; i < 20; i++) {
            check.due("hearer " + i, s.hearer(3599, i % 9 - 1), i);
        }
        check.due("the 21st", s.hearer(0, 0), NONE);
    }

    /** Whether hearer 0 holds a condition of shot k so: turns to the bang's sector, which is not NONE. */
    private static void holds(BangSquare s, int k, String condition, boolean want) {
        check.due("lines of " + condition, Check.text(s, 3, "turn bang when " + condition + ";"), 1);
        check.due(condition, s.turning(3, 0, k) != NONE, want);
    }

    private static void promise13Values() {
        BangSquare s = new BangSquare();
        s.hearer(cell(20, 15), 0);
        s.shot(cell(10, 10), 1000, cell(20, 10), 10);
        s.shot(cell(10, 10), 1000, NONE, 0);
        holds(s, 0, "bang=476", true);
        holds(s, 0, "crack=1332", true);
        holds(s, 0, "gap=11", true);
        holds(s, 0, "near=11", true);
        holds(s, 0, "walls=0 and wall=0", true);
        holds(s, 1, "bang=476 and crack=0 and gap=0 and near=11", true);
        s.wall(true, 30, 0, 40, 50);
        s.wall(false, 5, 12, 14, 0);
        s.wall(false, 5, 14, 20, 0);
        holds(s, 0, "walls=2", true);
        holds(s, 0, "wall=357", true);
    }

    private static void promise13Arithmetic() {
        BangSquare s = new BangSquare();
        s.hearer(0, 0);
        s.shot(5, 0, NONE, 0);
        holds(s, 0, "1<2", true);
        holds(s, 0, "2<2", false);
        holds(s, 0, "3>2", true);
        holds(s, 0, "2>2", false);
        holds(s, 0, "7-2-1=4", true);
        holds(s, 0, "2+3*4=14", true);
        holds(s, 0, "7/2*3=9", true);
        holds(s, 0, "7*3/2=10", true);
        holds(s, 0, "7/1=7", true);
        holds(s, 0, "0-7<0-6", true);
        holds(s, 0, "1-8=0-7", true);
        // 99999 * 42949 wraps to -110245; a part of it goes towards 0.
        holds(s, 0, "99999*42949+99999+10246=0", true);
        holds(s, 0, "99999*42949/2=0-55122", true);
        holds(s, 0, "99999*42949/99999=0-1", true);
        holds(s, 0, "99999*42949/2>0", false);
        holds(s, 0, "99999*42949*2/3<0", true);
        holds(s, 0, "1=1 or 1=1 and 1=2", true);
        holds(s, 0, "(1=1 or 1=1) and 1=2", false);
        holds(s, 0, "not 1=2 and 1=1", true);
        holds(s, 0, "not 1=2 and 1=2", false);
        holds(s, 0, "not (1=2 or 1=1)", false);
        holds(s, 0, "not not 1=1", true);
        holds(s, 0, "not 1=1 or 2=2", true);
        holds(s, 0, "1=2 or 1=3 or 1=1", true);
        holds(s, 0, "1=1 and 2=2 and 3=4", false);
        holds(s, 0, "10-3+2=9", true);
        holds(s, 0, "1+1=4-2", true);
    }

    private static void promise13Turns() {
        BangSquare s = new BangSquare();
        s.hearer(cell(20, 15), 0);
        s.hearer(cell(10, 10), 0);
        s.shot(cell(10, 10), 1000, cell(20, 10), 10);
        s.shot(cell(10, 10), 1000, NONE, 0);
        Check.text(s, 0, "turn bang when 1=1;");
        Check.text(s, 1, "turn crack when 1=1;");
        Check.text(s, 2, "turn wall when 1=1;");
        Check.text(s, 3, "turn crack when gap>0; turn no when near<5; turn bang when 1=1; turn crack when 1=1;");
        check.due("bang", s.turning(0, 0, 0), 4);
        check.due("crack comes from 17, 10", s.turning(1, 0, 0), 5);
        check.due("no crack", s.turning(1, 0, 1), NONE);
        check.due("no wall", s.turning(2, 0, 0), NONE);
        check.due("the first line", s.turning(3, 0, 0), 5);
        check.due("the third line", s.turning(3, 0, 1), 4);
        check.due("no", s.turning(3, 1, 1), NONE);
        check.due("the same cell", s.turning(0, 1, 1), NONE);
        Check.text(s, 0, "turn bang when 1=2;");
        check.due("no line", s.turning(0, 0, 0), NONE);
    }

    private static void promise13Walls() {
        BangSquare s = new BangSquare();
        s.hearer(cell(20, 20), 0);
        s.shot(cell(20, 30), 0, NONE, 0);
        Check.text(s, 0, "turn wall when 1=1;");
        s.wall(true, 0, 0, 59, 100);
        check.due("a dull wall is one, too", s.turning(0, 0, 0), 3);
        s.wall(true, 45, 0, 59, 100);
        check.due("of several as loud the least", s.turning(0, 0, 0), 3);
        s.wall(true, 40, 0, 59, 90);
        check.due("the loudest", s.turning(0, 0, 0), 0);
        s.wall(false, 0, 0, 59, 0);
        check.due("a louder one", s.turning(0, 0, 0), 6);
    }

    private static void promise13Wrong() {
        BangSquare s = new BangSquare();
        s.hearer(0, 0);
        s.shot(5, 0, NONE, 0);
        Check.text(s, 3, "turn bang when 1=1;");
        check.due("law 3", s.turning(3, 0, 0), 0);
        check.due("law 4", s.turning(4, 0, 0), NONE);
        check.due("law -1", s.turning(-1, 0, 0), NONE);
        check.due("hearer 1", s.turning(3, 1, 0), NONE);
        check.due("hearer -1", s.turning(3, -1, 0), NONE);
        check.due("shot 1", s.turning(3, 0, 1), NONE);
        check.due("shot -1", s.turning(3, 0, -1), NONE);
    }

    private static void promise14() {
        BangSquare s = new BangSquare();
        check.due("no shot yet", s.story(0, 1), false);
        check.due("an empty one", s.story(0, 0), true);
        s.shot(0, 0, NONE, 0);
        s.shot(0, 0, NONE, 0);
        check.due("both", s.story(5, 3), true);
        check.due("shot 2 is not there", s.story(5, 4), false);
        check.due("below 0", s.story(5, -1), false);
        check.due("story 6", s.story(6, 1), false);
        check.due("story -1", s.story(-1, 1), false);
        for (int i = 2; i < 10; i++) {
            s.shot(0, 0, NONE, 0);
        }
        check.due("all ten", s.story(0, 1023), true);
        check.due("1024", s.story(0, 1024), false);
    }

    private static void promise15() {
        BangSquare s = new BangSquare();
        s.hearer(cell(30, 30), 0);
        s.hearer(cell(30, 30), 4);
        s.hearer(cell(30, 30), NONE);
        s.shot(cell(40, 30), 0, NONE, 0);
        s.shot(cell(20, 30), 0, NONE, 0);
        s.shot(cell(30, 30), 0, NONE, 0);
        s.shot(cell(30, 50), 0, NONE, 0);
        Check.text(s, 1, "turn bang when 1=1;");
        check.due("none has a shot", s.stories(1, 6), NONE);
        s.story(0, 0);
        s.story(2, 8);
        check.due("fits none, but is one", s.stories(1, 6), 2);
        check.due("fits none", s.stories(1, 2), 0);
        s.story(3, 3);
        s.story(4, 4);
        s.story(5, 7);
        check.due("two", s.stories(1, 3), 2);
        check.due("one who didn't turn", s.stories(1, 4), 1);
        check.due("all", s.stories(1, 5), 3);
        check.due("an empty one", s.stories(1, 0), 0);
        check.due("an untold one", s.stories(1, 1), 0);
        check.due("the most", s.stories(1, 6), 5);
        s.story(5, 6);
        check.due("of several the least", s.stories(1, 6), 3);
        check.due("by an empty law nobody turns", s.stories(0, 3), 1);
        check.due("what 7", s.stories(1, 7), NONE);
        check.due("what -1", s.stories(1, -1), NONE);
        check.due("law 4", s.stories(4, 3), NONE);
        check.due("law -1", s.stories(-1, 3), NONE);
        s.story(3, 0);
        check.due("emptied", s.stories(1, 3), 0);
        check.due("the next one", s.stories(1, 6), 5);
    }

    private static void promise27() {
        BangSquare s = new BangSquare();
        check.due("aim -2", s.ball(-2, 5), false);
        check.due("aim 3600", s.ball(3600, 5), false);
        check.due("quick 0", s.ball(0, 0), false);
        check.due("quick 100", s.ball(0, 100), false);
        check.due("quick 1", s.ball(0, 1), true);
        check.due("quick 99", s.ball(3599, 99), true);
        check.due("quick not asked", s.ball(NONE, 1000), true);
    }

    private static void promise28() {
        BangSquare s = new BangSquare();
        s.hearer(cell(0, 0), 0);
        Check.text(s, 0, "turn bang when 1=1;");
        Check.text(s, 1, "turn bang when near<20;");
        Check.text(s, 2, "turn bang when near<40;");
        Check.text(s, 3, "turn bang when near<30;");
        check.due("a law alone", s.trials(4), 0);
        check.due("no spots", s.trials(3), NONE);
        s.spot(9, cell(10, 0));
        check.due("near parts none", s.trials(3), NONE);
        s.spot(7, cell(25, 0));
        check.due("25 parts 1 from 2", s.trials(6), 128);
        check.due("but not 0 from 2", s.trials(5), NONE);
        s.spot(5, cell(45, 0));
        check.due("45 parts 0 from all", s.trials(5), 32);
        check.due("0, 1 by either: the least", s.trials(3), 32);
        check.due("0, 1, 2 by both", s.trials(7), 160);
        check.due("all: 2 and 3 are not parted", s.trials(15), NONE);
        s.spot(6, cell(35, 0));
        check.due("2, 3 by 35", s.trials(12), 64);
        check.due("0, 3 by 35 or 45", s.trials(9), 32);
        check.due("all by three", s.trials(15), 32 + 64 + 128);
        check.due("0, 1, 2 by the least two", s.trials(7), 96);
        s.spot(0, cell(35, 0));
        check.due("a spot anew", s.trials(12), 1);
        fewerThoughGreater();
        check.due("0", s.trials(0), NONE);
        check.due("16", s.trials(16), NONE);
        check.due("-1", s.trials(-1), NONE);
    }

    private static void fewerThoughGreater() {
        BangSquare s = new BangSquare();
        s.hearer(cell(0, 0), 0);
        s.hearer(cell(59, 0), 0);
        Check.text(s, 0, "turn bang when near=20;");
        Check.text(s, 1, "turn bang when near=39;");
        Check.text(s, 2, "turn bang when near=50;");
        s.spot(0, cell(50, 0));
        s.spot(1, cell(50, 10));
        check.due("0 and 1 are not parted", s.trials(7), NONE);
        s.spot(2, cell(0, 20));
        check.due("50 and 20 together", s.trials(7), 5);
        s.spot(3, cell(20, 0));
        // From 20, 0 the first hearer is 20 and the second 39 off: 0, 1 and 2 turn three ways.
        check.due("one alone, though its number is greater", s.trials(7), 8);
    }

    private static void promise28Ball() {
        BangSquare s = new BangSquare();
        s.hearer(cell(0, 0), 0);
        s.spot(0, cell(30, 0));
        Check.text(s, 0, "turn bang when crack>0;");
        check.due("no ball at first", s.trials(3), NONE);
        s.ball(cell(30, 30), 10);
        check.due("a ball", s.trials(3), 1);
        s.ball(cell(30, 0), 10);
        check.due("none at the aim itself", s.trials(3), NONE);
        s.ball(cell(30, 30), 0);
        check.due("a wrong one changes nothing", s.trials(3), NONE);
        s.ball(cell(30, 30), 20);
        s.ball(NONE, 0);
        check.due("no ball", s.trials(3), NONE);
    }
}
