import java.util.Random;

/** Long runs of calls, the same each time, on the class and on the model: each answer must be the same. */
final class ModelTest {
    private static final Check check = new Check("ModelTest");
    private static final int[] ODD = {-2, -1, 0, 1, 59, 60, 3599, 3600, Integer.MAX_VALUE, Integer.MIN_VALUE};

    private final Random random;
    private final BangSquare square = new BangSquare();
    private final Model model = new Model();
    private int calls;
    /** Runs in which cells lie close together have more that is alike. */
    private final int spread;

    private ModelTest(long seed) {
        random = new Random(seed);
        spread = 2 + random.nextInt(59);
    }

    public static void main(String[] args) {
        int runs = args.length > 0 ? Integer.parseInt(args[0]) : 150;
        for (int seed = 1; seed <= runs; seed++) {
            ModelTest test = new ModelTest(seed);
            test.fill();
            while (test.calls < 480) {
                test.call(test.random.nextInt(44));
            }
        }
        texts(20 * runs);
        check.close();
    }

    private int below(int n) {
        return random.nextInt(n);
    }

    /** Mostly what may be, at times the edges, seldom something odd. */
    private int number(int least, int most) {
        int kind = below(40);
        if (kind == 0) {
            return ODD[below(ODD.length)];
        }
        if (kind == 1) {
            return least - 1;
        }
        if (kind == 2) {
            return most + 1;
        }
        if (kind == 3) {
            return least;
        }
        return kind == 4 ? most : least + below(most - least + 1);
    }

    private int cell() {
        if (below(30) == 0) {
            return number(0, 3599);
        }
        return 60 * below(spread) + below(spread);
    }

    private void due(String call, int got, int want) {
        calls++;
        check.due(call, got, want);
    }

    private void due(String call, boolean got, boolean want) {
        calls++;
        check.due(call, got, want);
    }

    private void fill() {
        for (int i = 0; i < 4 + below(8); i++) {
            addWall();
            spot();
        }
        for (int i = 0; i < 1 + below(6); i++) {
            call(4);
            call(8);
            call(8);
        }
        for (int k = 0; k < 5; k++) {
            text(k);
        }
    }

    private void addWall() {
        int a = number(0, 59);
        int b = number(0, 59);
        boolean up = random.nextBoolean();
        int at = below(3) == 0 ? number(0, 59) : below(2) * 59;
        int dull = number(0, 100);
        int low = below(20) == 0 ? b : Math.min(a, b);
        due("wall", square.wall(up, at, low, Math.max(a, b), dull), model.wall(up, at, low, Math.max(a, b), dull));
    }

    private void spot() {
        int k = number(0, 9);
        int c = cell();
        due("spot", square.spot(k, c), model.spot(k, c));
    }

    private void text(int k) {
        String text = ModelTexts.some(random, k < 4, below(4) == 0);
        for (int i = 0; i < text.length(); i += 20) {
            int[] n = new int[5];
            for (int j = 0; j < 5; j++) {
                n[j] = Check.four(text, i + 4 * j);
            }
            due("feed", square.feed(n[0], n[1], n[2], n[3], n[4]), model.feed(n));
        }
        int end = below(30) == 0 ? number(0, 400) : text.length();
        due("end", square.end(end), model.end(end));
        due("text '" + text + "'", square.text(k), model.text(k));
        due("fault(0) '" + text + "'", square.fault(0), model.fault(0));
        due("fault(1) '" + text + "'", square.fault(1), model.fault(1));
    }

    private static void texts(int count) {
        Random random = new Random(count);
        BangSquare square = new BangSquare();
        for (int i = 0; i < count; i++) {
            // Some texts on one object, so that what one leaves is seen by the next, but not beyond 512 calls.
            square = i % 20 == 0 ? new BangSquare() : square;
            boolean law = random.nextBoolean();
            String text = ModelTexts.some(random, law, random.nextInt(3) > 0);
            ModelText read = new ModelText(text, law);
            int lines = Check.text(square, law ? 0 : 4, text);
            check.due("lines of '" + text + "'", lines, read.fault == 0 ? read.lines.size() : -1);
            check.due("fault of '" + text + "'", square.fault(0), read.fault);
            check.due("place in '" + text + "'", square.fault(1), read.place);
        }
    }

    private void call(int kind) {
        switch (kind) {
            case 0, 1 -> {
                int what = number(0, 3);
                int v = what == 0 ? number(1, 9) : what == 3 ? number(0, 99) : number(-9, 9);
                due("set", square.set(what, v), model.set(what, v));
            }
            case 2 -> {
                int from = cell();
                int to = cell();
                int what = number(0, 2);
                due("comes", square.comes(from, to, what), model.comes(from, to, what));
            }
            case 3 -> addWall();
            case 4 -> addShot();
            case 5, 6, 7 -> gets();
            case 8 -> {
                int c = cell();
                int turned = number(-1, 7);
                due("hearer", square.hearer(c, turned), model.hearer(c, turned));
            }
            case 9, 10 -> text(number(0, 4));
            case 11, 12, 13 -> {
                int law = number(0, 3);
                int hearer = number(0, Math.max(1, model.hearers.size()) - 1);
                int shot = number(0, Math.max(1, model.shots.size()) - 1);
                due("turning", square.turning(law, hearer, shot), model.turning(law, hearer, shot));
            }
            case 14, 15 -> {
                int k = number(0, 5);
                int set = number(0, (1 << model.shots.size()) - 1);
                due("story", square.story(k, set), model.story(k, set));
            }
            case 16, 17 -> {
                int law = number(0, 3);
                int what = number(0, 6);
                due("stories", square.stories(law, what), model.stories(law, what));
            }
            case 18 -> {
                int c = cell();
                due("ear", square.ear(c), model.ear(c));
            }
            case 19 -> got();
            case 20 -> {
                int what = number(0, 2);
                due("from", square.from(what), model.from(what));
            }
            default -> more(kind);
        }
    }

    private void addShot() {
        int c = cell();
        int time = number(0, 99999);
        int aim = below(3) == 0 ? -1 : cell();
        int quick = number(1, 99);
        due("shot", square.shot(c, time, aim, quick), model.shot(c, time, aim, quick));
    }

    private void gets() {
        int shot = number(0, Math.max(1, model.shots.size()) - 1);
        int c = cell();
        int what = below(2) == 0 ? number(0, 4) : number(0, 69);
        due("gets(" + shot + ", " + c + ", " + what + ")", square.gets(shot, c, what), model.gets(shot, c, what));
    }

    private void got() {
        int ear = number(0, Math.max(1, model.ears.size()) - 1);
        int from = below(5) == 0 ? -1 : 1000 + below(3 * spread);
        int to = below(20) == 0 ? number(0, 199999) % 200001 : from + below(20);
        if (to > 3000 && to < 199999) {
            to = from + 40;
        }
        due("got", square.got(ear, from, to), model.got(ear, from, to));
    }

    private void more(int kind) {
        int tape = number(0, 3);
        int s = number(0, 9);
        int e = number(0, 9);
        switch (kind) {
            case 21, 22, 23, 24 -> {
                java.util.List<Integer> row = model.clicks.get(tape & 3);
                int last = row.isEmpty() ? 1000 : row.get(row.size() - 1);
                int time = below(20) == 0 ? number(0, 199999) : Math.min(last + below(60), last > 190000 ? 199999 : 500000);
                time = below(20) > 0 && time > 190000 ? last : time;
                due("click", square.click(tape, time), model.click(tape, time));
            }
            case 25, 26, 27 -> {
                int what = number(0, 1);
                due("fits", square.fits(tape, s, e, what), model.fits(tape, s, e, what));
            }
            case 28, 29 -> {
                int what = number(0, 2);
                due("couple", square.couple(tape, what), model.couple(tape, what));
            }
            case 30 -> due("must", square.must(tape, s, e), model.must(tape, s, e));
            case 31 -> {
                int place = below(10) == 0 ? number(0, 199999) : below(500);
                int from = below(10) == 0 ? number(0, 9999999) : place + 5000 + below(30);
                int to = below(10) == 0 ? number(0, 9999999) : from + below(40);
                due("voice", square.voice(tape, place, from, to), model.voice(tape, place, from, to));
            }
            case 32, 33 -> {
                int what = number(0, 1);
                due("over", square.over(tape, what), model.over(tape, what));
            }
            case 34, 35 -> {
                int loud = number(0, 9999);
                int length = number(0, 999);
                int time = below(3) == 0 ? below(5) : number(0, 199999);
                int truly = number(1, 3);
                due("noise", square.noise(loud, length, time, truly), model.noise(loud, length, time, truly));
            }
            default -> last(kind);
        }
    }

    private void last(int kind) {
        switch (kind) {
            case 36, 37 -> {
                int what = below(3) == 0 ? number(0, 1) : number(10, 29);
                due("noises", square.noises(what), model.noises(what));
            }
            case 38 -> {
                int aim = below(4) == 0 ? -1 : cell();
                int quick = number(1, 99);
                due("ball", square.ball(aim, quick), model.ball(aim, quick));
            }
            case 39 -> {
                int laws = number(1, 15);
                due("trials", square.trials(laws), model.trials(laws));
            }
            case 40, 41 -> {
                int set = number(0, 1023) & (below(4) == 0 ? -1 : model.told());
                int doubt = below(3) == 0 ? number(0, 999) : below(3 * spread);
                due("apart", square.apart(set, doubt), model.apart(set, doubt));
            }
            case 42 -> {
                int k = number(2, 6);
                int doubt = below(3) == 0 ? number(0, 999) : below(3 * spread);
                due("roofs", square.roofs(k, doubt), model.roofs(k, doubt));
            }
            default -> {
                int what = number(0, 5);
                due("look", square.look(what), model.look(what));
                spot();
            }
        }
    }
}
