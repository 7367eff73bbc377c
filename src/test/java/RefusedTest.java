import java.util.ArrayList;
import java.util.List;
import java.util.function.Consumer;
import java.util.function.ToIntFunction;

/**
 * A refused call leaves everything as it was: an object with the call and one without it answer alike ever after.
 * Each state is built anew for each group of questions, so that no object has more than its 512 calls.
 */
final class RefusedTest {
    private static final int NONE = BangSquare.NONE;
    private static final int LOW = Integer.MIN_VALUE;
    private static final int HIGH = Integer.MAX_VALUE;
    private static final Check check = new Check("RefusedTest");

    private record Call(String name, int refusal, ToIntFunction<BangSquare> ask) { }

    private static final List<Call> calls = new ArrayList<>();

    public static void main(String[] args) {
        square();
        hearers();
        tapes();
        noisesAndTrials();
        questions();
        compare("empty", s -> { });
        compare("some", RefusedTest::some);
        calls.clear();
        whatIsFull();
        compare("full", RefusedTest::full);
        check.close();
    }

    private static void number(String name, ToIntFunction<BangSquare> ask) {
        calls.add(new Call(name, NONE, ask));
    }

    private interface Told {
        boolean by(BangSquare square);
    }

    private static void told(String name, Told ask) {
        calls.add(new Call(name, 0, s -> ask.by(s) ? 1 : 0));
    }

    // ---- calls that are refused in a state that is neither full nor rich in spots ----

    private static void square() {
        int[][] sets = {{0, 0}, {0, 10}, {1, -10}, {1, 10}, {2, -10}, {2, 10}, {3, -1}, {3, 100}, {-1, 1}, {4, 1}, {LOW, 1}, {HIGH, 1},
            {0, LOW}, {1, HIGH}, {2, LOW}, {3, HIGH}};
        for (int[] a : sets) {
            told("promise 2: set", s -> s.set(a[0], a[1]));
        }
        int[][] walls = {{-1, 0, 0, 0}, {60, 0, 0, 0}, {0, -1, 0, 0}, {0, 0, 60, 0}, {0, 6, 5, 0}, {0, 60, 60, 0}, {0, -1, -1, 0},
            {0, 0, 0, -1}, {0, 0, 0, 101}, {LOW, 0, 0, 0}, {0, LOW, HIGH, 0}, {0, HIGH, LOW, 0}, {0, 0, 0, HIGH}};
        for (int[] a : walls) {
            number("promise 4: wall", s -> s.wall(true, a[0], a[1], a[2], a[3]));
            number("promise 4: wall", s -> s.wall(false, a[0], a[1], a[2], a[3]));
        }
        int[][] spots = {{-1, 0}, {10, 0}, {0, -1}, {0, 3600}, {9, -1}, {LOW, 0}, {HIGH, 0}, {3, LOW}, {3, HIGH}};
        for (int[] a : spots) {
            told("promise 5: spot", s -> s.spot(a[0], a[1]));
        }
        int[][] shots = {{-1, 0, -1, 1}, {3600, 0, -1, 1}, {0, -1, -1, 1}, {0, 100000, -1, 1}, {7, 0, 7, 1}, {7, 0, -2, 1}, {7, 0, 3600, 1},
            {7, 0, 8, 0}, {7, 0, 8, 100}, {LOW, 0, -1, 1}, {0, HIGH, -1, 1}, {0, 0, LOW, 1}, {0, 0, 1, HIGH}};
        for (int[] a : shots) {
            number("promise 6: shot", s -> s.shot(a[0], a[1], a[2], a[3]));
        }
        for (int n : new int[] {-1, 401, LOW, HIGH}) {
            told("promise 9: end", s -> s.end(n));
        }
    }

    private static void hearers() {
        int[][] hearers = {{-1, 0}, {3600, 0}, {0, -2}, {0, 8}, {LOW, 0}, {0, HIGH}};
        for (int[] a : hearers) {
            number("promise 12: hearer", s -> s.hearer(a[0], a[1]));
        }
        int[][] stories = {{-1, 0}, {6, 0}, {0, -1}, {0, 1024}, {5, 512}, {0, LOW}, {0, HIGH}, {LOW, 0}, {HIGH, 0}};
        for (int[] a : stories) {
            told("promise 14: story", s -> s.story(a[0], a[1]));
        }
    }

    private static void tapes() {
        for (int cell : new int[] {-1, 3600, LOW, HIGH}) {
            number("promise 16: ear", s -> s.ear(cell));
        }
        int[][] gots = {{-1, 0, 0}, {8, 0, 0}, {7, -1, 0}, {0, -2, 0}, {0, 5, 4}, {0, 0, 200000}, {0, 200000, 200000}, {LOW, 0, 0},
            {0, LOW, HIGH}, {0, HIGH, LOW}};
        for (int[] a : gots) {
            told("promise 17: got", s -> s.got(a[0], a[1], a[2]));
        }
        int[][] clicks = {{-1, 0}, {4, 0}, {0, -1}, {0, 200000}, {LOW, 0}, {0, HIGH}, {3, LOW}};
        for (int[] a : clicks) {
            number("promise 19: click", s -> s.click(a[0], a[1]));
        }
        int[][] voices = {{-1, 0, 0, 0}, {4, 0, 0, 0}, {0, -1, 0, 0}, {0, 200000, 0, 0}, {0, 0, -1, 0}, {0, 0, 5, 4}, {0, 0, 0, 10000000},
            {0, LOW, 0, 0}, {0, 0, LOW, HIGH}, {HIGH, 0, 0, 0}};
        for (int[] a : voices) {
            number("promise 23: voice", s -> s.voice(a[0], a[1], a[2], a[3]));
        }
    }

    private static void noisesAndTrials() {
        int[][] noises = {{-1, 0, 0, 1}, {10000, 0, 0, 1}, {0, -1, 0, 1}, {0, 1000, 0, 1}, {0, 0, -1, 1}, {0, 0, 200000, 1}, {0, 0, 0, 0},
            {0, 0, 0, 4}, {LOW, 0, 0, 1}, {0, HIGH, 0, 1}, {0, 0, 0, LOW}};
        for (int[] a : noises) {
            number("promise 25: noise", s -> s.noise(a[0], a[1], a[2], a[3]));
        }
        int[][] balls = {{-2, 5}, {3600, 5}, {0, 0}, {0, 100}, {LOW, 5}, {HIGH, 5}, {0, LOW}, {0, HIGH}};
        for (int[] a : balls) {
            told("promise 27: ball", s -> s.ball(a[0], a[1]));
        }
    }

    /** Questions that can't be answered change nothing either; 5000 is too great for each of them. */
    private static void questions() {
        for (int odd : new int[] {-2, 5000, LOW, HIGH}) {
            number("promise 3: comes from", s -> s.comes(odd, 0, 0));
            number("promise 3: comes to", s -> s.comes(0, odd, 0));
            number("promise 3: comes what", s -> s.comes(0, 1, odd));
            number("promise 7: gets of a shot", s -> s.gets(odd, 0, 0));
            number("promise 7: gets at a cell", s -> s.gets(0, odd, 0));
            number("promise 7: gets what", s -> s.gets(0, 0, odd));
            number("promise 11: fault", s -> s.fault(odd));
            number("promise 13: turning by a law", s -> s.turning(odd, 0, 0));
            number("promise 13: turning of a hearer", s -> s.turning(0, odd, 0));
            number("promise 13: turning of a shot", s -> s.turning(0, 0, odd));
            number("promise 15: stories by a law", s -> s.stories(odd, 0));
            number("promise 15: stories what", s -> s.stories(0, odd));
            number("promise 18: from", s -> s.from(odd));
            number("promise 20: fits a tape", s -> s.fits(odd, 0, 1, 0));
            number("promise 20: fits from a spot", s -> s.fits(0, odd, 1, 0));
            number("promise 20: fits to a spot", s -> s.fits(0, 0, odd, 0));
            number("promise 20: fits what", s -> s.fits(0, 0, 1, odd));
            number("promise 21: couple of a tape", s -> s.couple(odd, 0));
            number("promise 21: couple what", s -> s.couple(0, odd));
            number("promise 22: must of a tape", s -> s.must(odd, 0, 1));
            number("promise 22: must from a spot", s -> s.must(0, odd, 1));
            number("promise 22: must to a spot", s -> s.must(0, 0, odd));
            number("promise 24: over a tape", s -> s.over(odd, 0));
            number("promise 24: over what", s -> s.over(0, odd));
            number("promise 26: noises", s -> s.noises(odd));
            number("promise 28: trials", s -> s.trials(odd));
            number("promise 29: apart by a set", s -> s.apart(odd, 0));
            number("promise 29: apart by a doubt", s -> s.apart(0, odd));
            number("promise 30: roofs of k", s -> s.roofs(odd, 0));
            number("promise 30: roofs by a doubt", s -> s.roofs(2, odd));
            number("promise 31: look", s -> s.look(odd));
        }
    }

    private static void whatIsFull() {
        number("promise 4: there are ten", s -> s.wall(true, 1, 0, 59, 0));
        number("promise 6: there are ten", s -> s.shot(1, 1, 2, 1));
        number("promise 8: more than 400", s -> s.feed(0x78787878, 0, 0, 0, 0));
        number("promise 12: there are 20", s -> s.hearer(1, 1));
        number("promise 16: there are eight", s -> s.ear(1));
        for (int t = 0; t < 4; t++) {
            int tape = t;
            number("promise 19: it has 20", s -> s.click(tape, 150000));
            number("promise 19: not above the last one", s -> s.click(tape, 1));
            number("promise 23: there are ten", s -> s.voice(tape, 0, 9999999, 9999999));
        }
        number("promise 25: there are 20", s -> s.noise(1, 1, 1, 1));
        told("promise 14: a shot beyond", s -> s.story(0, 1024));
        told("promise 9: not so many", s -> s.end(401));
        told("promise 17: no ear", s -> s.got(8, 0, 199999));
    }

    // ---- states ----

    static void some(BangSquare s) {
        s.set(0, 2);
        s.set(1, 3);
        s.set(2, -4);
        s.set(3, 7);
        s.wall(true, 0, 0, 59, 10);
        s.wall(false, 59, 10, 50, 20);
        for (int i = 0; i < 3; i++) {
            s.spot(i, 700 + 317 * i);
            s.shot(610 + 7 * i, 100 * i, i == 1 ? NONE : 620 + 300 * i, 10 + i);
            s.hearer(1500 + 31 * i, i);
            s.ear(200 * i);
            s.got(i, 1000 + 40 * i, 1100 + 30 * i);
            s.noise(100 * i, 10 * i, 50 * i, 1 + i);
        }
        texts(s);
        s.story(1, 5);
        for (int i = 0; i < 4; i++) {
            s.click(0, 100 + 30 * i);
            s.click(2, 100 + 41 * i);
            s.voice(i, 10 * i, 500, 600);
            s.voice(i, 20 * i, 610, 700);
        }
        s.ball(1830, 12);
        Check.text(s, 1, "turn bang when 1/0=1;");
        Check.lay(s, "turn bang when 1=1;");
    }

    private static void texts(BangSquare s) {
        Check.text(s, 0, "turn bang when near<30; turn crack when gap>4;");
        Check.text(s, 2, "turn wall when wall>10; turn bang when bang>200;");
        Check.text(s, 4, "shot when loud>150; truck when ahead<60; board when 1=1;");
    }

    static void full(BangSquare s) {
        for (int i = 0; i < 20; i++) {
            s.wall(i % 2 == 0, 3 * i, i, 59, 5 * i);
            s.spot(i, 37 * i + 600 * (i % 5));
            s.shot(100 * i + i, 10 * i, i % 3 == 0 ? NONE : 3000 - 11 * i, 1 + 5 * i);
            s.hearer(90 * i, i % 9 - 1);
            s.ear(401 * i);
            s.noise(100 * i, 10 * i, 77 * i, 1 + i % 3);
        }
        for (int i = 0; i < 80; i++) {
            s.click(i % 4, 100 + 13 * i);
        }
        for (int i = 0; i < 40; i++) {
            s.voice(i % 4, 10 * i, 500 + 9 * i, 600 + 9 * i + i % 5);
        }
        for (int i = 0; i < 8; i++) {
            s.got(i, 1000 + 5 * i, 1200 + 5 * i);
        }
        texts(s);
        for (int k = 0; k < 6; k++) {
            s.story(k, 173 * k);
        }
        Check.text(s, 3, "x");
        Check.lay(s, "turn bang when 1=1;" + " ".repeat(381));
    }

    // ---- comparing ----

    private static void compare(String state, Consumer<BangSquare> build) {
        for (int group = 0; group < 6; group++) {
            List<Integer> plain = answers(group, made(build));
            for (Call call : calls) {
                BangSquare s = made(build);
                check.due(state + ", " + call.name + " is refused", call.ask.applyAsInt(s), call.refusal);
                check.due(state + ", " + call.name + " leaves everything as it was, group " + group,
                        answers(group, s).equals(plain), true);
            }
        }
    }

    private static BangSquare made(Consumer<BangSquare> build) {
        BangSquare s = new BangSquare();
        build.accept(s);
        return s;
    }

    /** What a state answers to one of six groups of questions; 4 and 5 change it. */
    static List<Integer> answers(int group, BangSquare s) {
        List<Integer> all = new ArrayList<>();
        switch (group) {
            case 0 -> sounds(s, all);
            case 1 -> turnings(s, all);
            case 2 -> cellsAndTapes(s, all);
            case 3 -> sortings(s, all);
            case 4 -> bytes(s, all);
            default -> nextNumbers(s, all);
        }
        return all;
    }

    private static void sounds(BangSquare s, List<Integer> all) {
        for (int what = 0; what <= 5; what++) {
            all.add(s.look(what));
        }
        all.add(s.comes(0, 3599, 0));
        all.add(s.comes(3599, 0, 0));
        all.add(s.comes(0, 59, 0));
        all.add(s.fault(0));
        all.add(s.fault(1));
        for (int shot = 0; shot < 10; shot++) {
            for (int what = 0; what <= 4; what++) {
                all.add(s.gets(shot, 1830, what));
            }
        }
        for (int w = 0; w < 10; w++) {
            all.add(s.gets(0, 1830, 10 + w));
            all.add(s.gets(2, 1830, 30 + w));
            all.add(s.gets(1, 1830, 50 + w));
        }
    }

    private static void turnings(BangSquare s, List<Integer> all) {
        for (int law = 0; law < 4; law++) {
            for (int what = 0; what <= 6; what++) {
                all.add(s.stories(law, what));
            }
            for (int hearer = 0; hearer < 20; hearer++) {
                all.add(s.turning(law, hearer, hearer % 10));
            }
        }
    }

    private static void cellsAndTapes(BangSquare s, List<Integer> all) {
        for (int what = 0; what <= 2; what++) {
            all.add(s.from(what));
        }
        for (int tape = 0; tape < 4; tape++) {
            all.add(s.over(tape, 0));
            all.add(s.over(tape, 1));
            for (int what = 0; what <= 2; what++) {
                all.add(s.couple(tape, what));
            }
            all.add(s.must(tape, 0, 1));
            all.add(s.must(tape, 1, 2));
            all.add(s.fits(tape, 0, 1, 0));
            all.add(s.fits(tape, 2, 0, 0));
        }
    }

    private static void sortings(BangSquare s, List<Integer> all) {
        for (int what = 0; what < 30; what++) {
            all.add(s.noises(what));
        }
        for (int laws = 1; laws <= 15; laws++) {
            all.add(s.trials(laws));
        }
        for (int k = 2; k <= 6; k++) {
            all.add(s.roofs(k, 20));
        }
        all.add(s.apart(3, 10));
        all.add(s.apart(7, 50));
    }

    private static void bytes(BangSquare s, List<Integer> all) {
        all.add(s.feed(0x20202020, 0x20202020, 0x20202020, 0x20202020, 0x20202020));
        all.add(s.text(1));
        all.add(s.fault(0));
        all.add(s.fault(1));
        all.add(s.turning(1, 0, 0));
        all.add(s.feed(0, 0, 0, 0, 0));
    }

    private static void nextNumbers(BangSquare s, List<Integer> all) {
        all.add(s.wall(true, 5, 5, 5, 5));
        all.add(s.shot(5, 5, NONE, 5));
        all.add(s.hearer(5, 5));
        all.add(s.ear(5));
        all.add(s.noise(5, 5, 5, 1));
        for (int tape = 0; tape < 4; tape++) {
            all.add(s.click(tape, 190));
            all.add(s.click(tape, 199999));
            all.add(s.voice(tape, 5, 5, 5));
        }
        all.add(s.story(0, 1) ? 1 : 0);
        all.add(s.spot(9, 5) ? 1 : 0);
        all.add(s.look(5));
    }
}
