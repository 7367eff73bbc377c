import java.util.Arrays;

/**
 * Where shots came from: a square with walls and wind, and what ears, tapes and hearers
 * tell of the shots on it. The words are those of the document, which numbers the promises.
 */
public final class BangSquare {

    public static final int NONE = -1;

    private static final int SIDE = 60;
    private static final int CELLS = SIDE * SIDE;
    private static final int MOST_WALLS = 10;
    private static final int MOST_SPOTS = 10;
    private static final int MOST_SHOTS = 10;
    private static final int MOST_STORIES = 6;
    private static final int MOST_HEARERS = 20;
    private static final int MOST_EARS = 8;
    private static final int MOST_TAPES = 4;
    private static final int MOST_CLICKS = 20;
    private static final int MOST_VOICES = 10;
    private static final int MOST_NOISES = 20;
    private static final int MOST_BYTES = 400;
    private static final int FED_BYTES = 20;
    private static final int LAWS = 4;
    private static final int RULES = 4;
    private static final int LAST_SHOT_TIME = 99999;
    private static final int LAST_TIME = 199999;
    private static final int LAST_TRUE_TIME = 9999999;
    private static final int MOST_DOUBT = 999;
    private static final int FAR_OFF = 9999;
    // Far above what any of two times can be apart.
    private static final int BEYOND_ALL = 1000000000;

    private final Square square;
    private final Heard heard;
    private final int[] spots;
    private final Shot[] shots;
    private int shotCount;
    private final Reader reader;
    private final Crowd crowd;
    private final int[] storySets;
    private final int[] earCells;
    private final Spans earSpans;
    private final Tape[] tapes;
    private int margin;
    private final Noises noiseRow;
    private final Shot trial;
    private int trialAim;
    private int trialQuick;
    private final int[] trialParts;
    private final Roofs roofTable;

    public BangSquare() {
        square = new Square();
        heard = new Heard(square);
        spots = new int[MOST_SPOTS];
        Arrays.fill(spots, NONE);
        shots = new Shot[MOST_SHOTS];
        for (int i = 0; i < MOST_SHOTS; i++) {
            shots[i] = new Shot();
        }
        reader = new Reader();
        crowd = new Crowd(heard);
        storySets = new int[MOST_STORIES];
        earCells = new int[MOST_EARS];
        earSpans = new Spans(MOST_EARS);
        tapes = new Tape[MOST_TAPES];
        for (int i = 0; i < MOST_TAPES; i++) {
            tapes[i] = new Tape(heard, spots);
        }
        margin = 5;
        noiseRow = new Noises();
        trial = new Shot();
        trialAim = NONE;
        trialParts = new int[MOST_SPOTS];
        roofTable = new Roofs(square, spots);
    }

    // ---- the square and its sound ----

    public boolean set(int what, int v) {
        if (what == 0 && within(v, 1, 9)) {
            square.slow = v;
            return true;
        }
        if (what == 1 && within(v, -9, 9)) {
            square.windX = v;
            return true;
        }
        if (what == 2 && within(v, -9, 9)) {
            square.windY = v;
            return true;
        }
        if (what == 3 && within(v, 0, 99)) {
            margin = v;
            return true;
        }
        return false;
    }

    public int comes(int from, int to, int what) {
        if (!isCell(from) || !isCell(to)) {
            return NONE;
        }
        switch (what) {
            case 0:
                return square.travel(from, to);
            case 1:
                return loudness(between(from, to));
            case 2:
                return sectorOf(from, to);
            default:
                return NONE;
        }
    }

    public int wall(boolean upright, int at, int a, int b, int dull) {
        boolean stands = within(at, 0, SIDE - 1) && within(a, 0, SIDE - 1) && within(b, a, SIDE - 1);
        if (!stands || !within(dull, 0, 100) || square.wallCount >= MOST_WALLS) {
            return NONE;
        }
        square.walls[square.wallCount].build(upright, at, a, b, dull);
        square.wallCount++;
        return square.wallCount - 1;
    }

    public boolean spot(int k, int cell) {
        if (!within(k, 0, MOST_SPOTS - 1) || !isCell(cell)) {
            return false;
        }
        spots[k] = cell;
        return true;
    }

    public int shot(int cell, int time, int aim, int quick) {
        if (!isCell(cell) || !within(time, 0, LAST_SHOT_TIME) || shotCount >= MOST_SHOTS) {
            return NONE;
        }
        if (aim == cell || !isBall(aim, quick)) {
            return NONE;
        }
        shots[shotCount].fire(cell, time, aim, quick);
        shotCount++;
        return shotCount - 1;
    }

    public int gets(int shot, int cell, int what) {
        if (!within(shot, 0, shotCount - 1) || !isCell(cell)) {
            return NONE;
        }
        heard.listen(shots[shot], cell);
        switch (what) {
            case 0:
                return heard.bangTime;
            case 1:
                return heard.crackTime;
            case 2:
                return heard.crackCell;
            case 3:
                return heard.crackLoud;
            case 4:
                return heard.backCount;
            default:
                return getsBack(what);
        }
    }

    private int getsBack(int what) {
        if (within(what, 10, 10 + MOST_WALLS - 1)) {
            return heard.backTimes[what - 10];
        }
        if (within(what, 30, 30 + MOST_WALLS - 1)) {
            return heard.backLouds[what - 30];
        }
        if (within(what, 50, 50 + MOST_WALLS - 1)) {
            return heard.backCells[what - 50];
        }
        return NONE;
    }

    // ---- texts ----

    public int feed(int a, int b, int c, int d, int e) {
        if (reader.length + FED_BYTES > MOST_BYTES) {
            return NONE;
        }
        reader.append(a);
        reader.append(b);
        reader.append(c);
        reader.append(d);
        reader.append(e);
        return reader.length;
    }

    public boolean end(int n) {
        if (!within(n, 0, reader.length)) {
            return false;
        }
        reader.length = n;
        return true;
    }

    public int text(int k) {
        if (!within(k, 0, RULES)) {
            reader.drop();
            return NONE;
        }
        if (k == RULES) {
            return reader.read(false, noiseRow.rules);
        }
        return reader.read(true, crowd.laws[k]);
    }

    public int fault(int what) {
        switch (what) {
            case 0:
                return reader.fault;
            case 1:
                return reader.faultPlace;
            default:
                return NONE;
        }
    }

    // ---- hearers and stories ----

    public int hearer(int cell, int turned) {
        if (!isCell(cell) || !within(turned, NONE, 7) || crowd.count >= MOST_HEARERS) {
            return NONE;
        }
        crowd.cells[crowd.count] = cell;
        crowd.turned[crowd.count] = turned;
        crowd.count++;
        return crowd.count - 1;
    }

    public int turning(int law, int hearer, int shot) {
        if (!within(law, 0, LAWS - 1) || !within(hearer, 0, crowd.count - 1) || !within(shot, 0, shotCount - 1)) {
            return NONE;
        }
        crowd.attend(hearer, shots[shot]);
        return crowd.sectorBy(law);
    }

    public boolean story(int k, int shots) {
        if (!within(k, 0, MOST_STORIES - 1) || !within(shots, 0, (1 << shotCount) - 1)) {
            return false;
        }
        storySets[k] = shots;
        return true;
    }

    public int stories(int law, int what) {
        if (!within(law, 0, LAWS - 1) || !within(what, 0, MOST_STORIES)) {
            return NONE;
        }
        if (what < MOST_STORIES) {
            return crowd.countFitting(law, shots, storySets[what]);
        }
        int best = NONE;
        int most = NONE;
        for (int k = 0; k < MOST_STORIES; k++) {
            int fitting = storySets[k] == 0 ? NONE : crowd.countFitting(law, shots, storySets[k]);
            if (fitting > most) {
                most = fitting;
                best = k;
            }
        }
        return best;
    }

    // ---- ears ----

    public int ear(int cell) {
        if (!isCell(cell) || earSpans.count >= MOST_EARS) {
            return NONE;
        }
        earCells[earSpans.count] = cell;
        return earSpans.add(0, NONE, NONE);
    }

    public boolean got(int ear, int from, int to) {
        if (!within(ear, 0, earSpans.count - 1)) {
            return false;
        }
        if (from != NONE && (!within(from, 0, LAST_TIME) || !within(to, from, LAST_TIME))) {
            return false;
        }
        earSpans.from[ear] = from;
        earSpans.to[ear] = to;
        return true;
    }

    public int from(int what) {
        if (!within(what, 0, 2)) {
            return NONE;
        }
        int found = 0;
        for (int i = 0; i < CELLS; i++) {
            int cell = what == 2 ? CELLS - 1 - i : i;
            if (mayBeFrom(cell)) {
                if (what != 0) {
                    return cell;
                }
                found++;
            }
        }
        return what == 0 ? found : NONE;
    }

    private boolean mayBeFrom(int cell) {
        for (int i = 0; i < earSpans.count; i++) {
            if (earSpans.from[i] != NONE) {
                earSpans.place[i] = square.travel(cell, earCells[i]);
            }
        }
        return earSpans.agreeWithout(NONE);
    }

    // ---- tapes ----

    public int click(int tape, int time) {
        if (!within(tape, 0, MOST_TAPES - 1) || !within(time, 0, LAST_TIME)) {
            return NONE;
        }
        return tapes[tape].addClick(time);
    }

    public int fits(int tape, int shot, int ear, int what) {
        if (!canLay(tape, shot, ear)) {
            return NONE;
        }
        tapes[tape].lay(shot, ear, margin);
        switch (what) {
            case 0:
                return tapes[tape].matched;
            case 1:
                return tapes[tape].sounds;
            default:
                return NONE;
        }
    }

    public int couple(int tape, int what) {
        if (!within(tape, 0, MOST_TAPES - 1) || tapes[tape].clickCount == 0) {
            return NONE;
        }
        tapes[tape].searchCouple(margin);
        if (tapes[tape].bestCouple == NONE) {
            return NONE;
        }
        switch (what) {
            case 0:
                return tapes[tape].bestCouple;
            case 1:
                return tapes[tape].bestMatched;
            case 2:
                return tapes[tape].asWell;
            default:
                return NONE;
        }
    }

    public int must(int tape, int shot, int ear) {
        if (!canLay(tape, shot, ear)) {
            return NONE;
        }
        return tapes[tape].fewestWalls(shot, ear, margin, square.wallCount);
    }

    private boolean canLay(int tape, int shotSpot, int earSpot) {
        return within(tape, 0, MOST_TAPES - 1) && tapes[tape].clickCount > 0
                && isTold(shotSpot) && isTold(earSpot) && shotSpot != earSpot;
    }

    public int voice(int tape, int place, int from, int to) {
        if (!within(tape, 0, MOST_TAPES - 1) || !within(place, 0, LAST_TIME)) {
            return NONE;
        }
        if (!within(from, 0, LAST_TRUE_TIME) || !within(to, from, LAST_TRUE_TIME)) {
            return NONE;
        }
        return tapes[tape].voices.add(place, from, to);
    }

    public int over(int tape, int what) {
        if (!within(tape, 0, MOST_TAPES - 1)) {
            return NONE;
        }
        switch (what) {
            case 0:
                return tapes[tape].voices.agreeWithout(NONE) ? 1 : 0;
            case 1:
                return tapes[tape].voices.overAlone();
            default:
                return NONE;
        }
    }

    // ---- noises ----

    public int noise(int loud, int length, int time, int truly) {
        if (!within(loud, 0, 9999) || !within(length, 0, 999) || !within(time, 0, LAST_TIME)) {
            return NONE;
        }
        if (!within(truly, 1, 3)) {
            return NONE;
        }
        return noiseRow.add(loud, length, time, truly);
    }

    public int noises(int what) {
        if (what == 0) {
            return noiseRow.countSentWrongly();
        }
        if (what == 1) {
            return noiseRow.countMissed();
        }
        if (within(what, 10, 10 + noiseRow.count - 1)) {
            return noiseRow.sort(what - 10);
        }
        return NONE;
    }

    // ---- trials and roofs ----

    public boolean ball(int aim, int quick) {
        if (!isBall(aim, quick)) {
            return false;
        }
        trialAim = aim;
        trialQuick = quick;
        return true;
    }

    public int trials(int laws) {
        if (!within(laws, 1, (1 << LAWS) - 1)) {
            return NONE;
        }
        int told = toldSpots();
        int wanted = Crowd.couplesOf(laws);
        for (int k = 0; k < MOST_SPOTS; k++) {
            trialParts[k] = 0;
            if (spots[k] != NONE) {
                trial.fire(spots[k], 0, spots[k] == trialAim ? NONE : trialAim, trialQuick);
                trialParts[k] = crowd.partedBy(trial) & wanted;
            }
        }
        int best = NONE;
        for (int set = 0; set < 1 << MOST_SPOTS; set++) {
            boolean parts = (set & ~told) == 0 && unionOf(trialParts, set) == wanted;
            if (parts && isFewer(set, best)) {
                best = set;
            }
        }
        return best;
    }

    public int apart(int set, int doubt) {
        if (!within(set, 0, (1 << MOST_SPOTS) - 1) || (set & ~toldSpots()) != 0 || !within(doubt, 0, MOST_DOUBT)) {
            return NONE;
        }
        roofTable.prepare(doubt);
        return roofTable.countApart(set);
    }

    public int roofs(int k, int doubt) {
        int told = toldSpots();
        if (!within(k, 2, 6) || k > Integer.bitCount(told) || !within(doubt, 0, MOST_DOUBT)) {
            return NONE;
        }
        roofTable.prepare(doubt);
        int best = NONE;
        int most = NONE;
        for (int set = 0; set < 1 << MOST_SPOTS; set++) {
            if (Integer.bitCount(set) == k && (set & ~told) == 0) {
                int count = roofTable.countApart(set);
                if (count > most) {
                    most = count;
                    best = set;
                }
            }
        }
        return best;
    }

    public int look(int what) {
        switch (what) {
            case 0:
                return square.wallCount;
            case 1:
                return shotCount;
            case 2:
                return crowd.count;
            case 3:
                return earSpans.count;
            case 4:
                return noiseRow.count;
            case 5:
                return Integer.bitCount(toldSpots());
            default:
                return NONE;
        }
    }

    // ---- what all parts use ----

    private boolean isTold(int spot) {
        return within(spot, 0, MOST_SPOTS - 1) && spots[spot] != NONE;
    }

    private int toldSpots() {
        int told = 0;
        for (int k = 0; k < MOST_SPOTS; k++) {
            if (spots[k] != NONE) {
                told |= 1 << k;
            }
        }
        return told;
    }

    private static boolean within(int v, int least, int most) {
        return v >= least && v <= most;
    }

    private static boolean isCell(int cell) {
        return within(cell, 0, CELLS - 1);
    }

    private static boolean isBall(int aim, int quick) {
        return aim == NONE || isCell(aim) && within(quick, 1, 99);
    }

    private static int column(int cell) {
        return cell % SIDE;
    }

    private static int row(int cell) {
        return cell / SIDE;
    }

    private static int distance(int dx, int dy) {
        int sum = dx * dx + dy * dy;
        int root = 0;
        // Mirrored points are not farther off than 118 and 59, so no root has a bit above 128.
        for (int bit = 128; bit > 0; bit >>= 1) {
            if ((root + bit) * (root + bit) <= sum) {
                root += bit;
            }
        }
        return root;
    }

    private static int between(int cell, int other) {
        return distance(column(other) - column(cell), row(other) - row(cell));
    }

    private static int loudness(int distance) {
        return distance < 0 ? 0 : 10000 / (distance + 10);
    }

    private static int sectorOf(int cell, int seenFrom) {
        int dx = column(cell) - column(seenFrom);
        int dy = row(cell) - row(seenFrom);
        if (dx == 0 && dy == 0) {
            return NONE;
        }
        boolean upper = dy > 0 || dy == 0 && dx > 0;
        return upper ? upperSector(dx, dy) : 4 + upperSector(-dx, -dy);
    }

    private static int upperSector(int dx, int dy) {
        if (dx > 0) {
            return dy < dx ? 0 : 1;
        }
        return dy > -dx ? 2 : 3;
    }

    /** Whether a set has fewer members than the best one so far (NONE: there is none yet). */
    private static boolean isFewer(int set, int best) {
        return best == NONE || Integer.bitCount(set) < Integer.bitCount(best);
    }

    private static int unionOf(int[] masks, int set) {
        int union = 0;
        for (int i = 0; i < masks.length; i++) {
            if ((set >> i & 1) != 0) {
                union |= masks[i];
            }
        }
        return union;
    }

    /** The square's air and its walls. */
    private static final class Square {
        int slow = 3;
        int windX;
        int windY;
        final Wall[] walls;
        int wallCount;

        Square() {
            walls = new Wall[MOST_WALLS];
            for (int i = 0; i < MOST_WALLS; i++) {
                walls[i] = new Wall();
            }
        }

        int travel(int from, int to) {
            int dx = column(to) - column(from);
            int dy = row(to) - row(from);
            int wind = Math.floorDiv(windX * dx + windY * dy, 8);
            return Math.max(0, slow * distance(dx, dy) - wind);
        }
    }

    /** A wall, with both directions told as across it and along it, so that upright and level are one. */
    private static final class Wall {
        boolean upright;
        int at;
        int low;
        int high;
        int dull;

        void build(boolean isUpright, int line, int first, int last, int dullness) {
            upright = isUpright;
            at = line;
            low = first;
            high = last;
            dull = dullness;
        }

        /** How far a cell is from the wall's line; below 0 on its one side. */
        int side(int cell) {
            return (upright ? column(cell) : row(cell)) - at;
        }

        int along(int cell) {
            return upright ? row(cell) : column(cell);
        }

        /** The cell of the crossing, or NONE if the wall doesn't send the sound back. */
        int crossing(int shot, int ear) {
            int shotSide = side(shot);
            int earSide = side(ear);
            if (shotSide == 0 || earSide == 0 || shotSide < 0 != earSide < 0) {
                return NONE;
            }
            // The crossing parts the way as both are far from the line: it is kept as parts of the whole.
            int whole = Math.abs(shotSide + earSide);
            int parts = along(shot) * Math.abs(earSide) + along(ear) * Math.abs(shotSide);
            if (whole == 0 || parts < low * whole || parts > high * whole) {
                return NONE;
            }
            int place = parts / whole;
            return upright ? SIDE * place + at : SIDE * at + place;
        }

        /** The distance of the ear from the mirrored shot. */
        int wayBack(int shot, int ear) {
            return distance(side(shot) + side(ear), along(ear) - along(shot));
        }
    }

    /** A shot; aim is NONE without a ball. */
    private static final class Shot {
        int cell;
        int time;
        int aim = NONE;
        int quick;

        void fire(int from, int at, int aimed, int quickness) {
            cell = from;
            time = at;
            aim = aimed;
            quick = quickness;
        }
    }

    /** What an ear gets of a shot: filled anew for each asking, so that no call makes rows. */
    private static final class Heard {
        final Square square;
        int near;
        int bangTime;
        int crackTime;
        int crackCell;
        int crackLoud;
        int backCount;
        int loudestWall;
        final int[] backTimes;
        final int[] backLouds;
        final int[] backCells;

        Heard(Square where) {
            square = where;
            backTimes = new int[MOST_WALLS];
            backLouds = new int[MOST_WALLS];
            backCells = new int[MOST_WALLS];
        }

        void listen(Shot shot, int ear) {
            near = between(shot.cell, ear);
            bangTime = shot.time + square.travel(shot.cell, ear);
            crackTime = NONE;
            crackCell = NONE;
            crackLoud = NONE;
            if (shot.aim != NONE) {
                listenCrack(shot, ear);
            }
            listenBack(shot, ear);
        }

        private void listenCrack(Shot shot, int ear) {
            int x = column(shot.cell);
            int y = row(shot.cell);
            int dx = column(shot.aim) - x;
            int dy = row(shot.aim) - y;
            int steps = Math.max(Math.abs(dx), Math.abs(dy));
            if (steps == 0) {
                return;
            }
            for (int k = 0; k <= steps; k++) {
                int point = SIDE * (y + Math.floorDiv(dy * k, steps)) + x + Math.floorDiv(dx * k, steps);
                int flight = shot.quick * between(shot.cell, point) / 10;
                int time = shot.time + flight + square.travel(point, ear);
                if (k == 0 || time < crackTime) {
                    crackTime = time;
                    crackCell = point;
                }
            }
            crackLoud = 2 * loudness(between(crackCell, ear));
        }

        private void listenBack(Shot shot, int ear) {
            backCount = 0;
            loudestWall = NONE;
            int loudest = NONE;
            for (int w = 0; w < MOST_WALLS; w++) {
                Wall wall = square.walls[w];
                backCells[w] = w < square.wallCount ? wall.crossing(shot.cell, ear) : NONE;
                backTimes[w] = NONE;
                backLouds[w] = NONE;
                if (backCells[w] != NONE) {
                    int way = wall.wayBack(shot.cell, ear);
                    backTimes[w] = shot.time + square.slow * way;
                    backLouds[w] = (100 - wall.dull) * loudness(way) / 100;
                    backCount++;
                    if (backLouds[w] > loudest) {
                        loudest = backLouds[w];
                        loudestWall = w;
                    }
                }
            }
        }
    }

    /** A text that has been read: code in which what is joined stands ahead of what joins it. */
    private static final class Script {
        // Codes of words and signs are as the reader tells them; a code's number stands in its low bits.
        static final int OR = 1;
        static final int AND = 2;
        static final int NOT = 3;
        static final int NUMBER = 12;
        static final int VALUE = 13;
        static final int SHIFT = 17;
        static final int MASK = (1 << SHIFT) - 1;
        // Each of 8 open ( keeps two numbers at most, one for or, one for and; the innermost line five more.
        static final int MOST_HELD = 32;

        int[] code;
        final int[] held;
        int heldCount;

        Script() {
            code = new int[0];
            held = new int[MOST_HELD];
        }

        /** What the first line tells whose condition is so; 0 if there is none. */
        int decide(int[] values) {
            heldCount = 0;
            for (int i = 0; i < code.length; i++) {
                int sign = code[i] >>> SHIFT;
                int number = code[i] & MASK;
                if (sign == ';') {
                    if (pop() != 0) {
                        return number;
                    }
                } else if (sign == NUMBER) {
                    push(number);
                } else if (sign == VALUE) {
                    push(number < values.length ? values[number] : 0);
                } else if (sign == NOT) {
                    push(1 - pop());
                } else if (sign == '/') {
                    push(number == 0 ? 0 : pop() / number);
                } else {
                    int right = pop();
                    push(join(sign, pop(), right));
                }
            }
            return 0;
        }

        private static int join(int sign, int left, int right) {
            switch (sign) {
                case '+':
                    return left + right;
                case '-':
                    return left - right;
                case '*':
                    return left * right;
                case '<':
                    return left < right ? 1 : 0;
                case '=':
                    return left == right ? 1 : 0;
                case '>':
                    return left > right ? 1 : 0;
                case AND:
                    return left & right;
                default:
                    return left | right;
            }
        }

        private void push(int number) {
            if (heldCount < held.length) {
                held[heldCount] = number;
                heldCount++;
            }
        }

        private int pop() {
            if (heldCount == 0) {
                return 0;
            }
            heldCount--;
            return held[heldCount];
        }
    }

    /**
     * The tape of bytes, and how a text on it becomes a script. Each token is asked once whether it
     * can stand where it stands; operators wait until what they join is complete.
     */
    private static final class Reader {
        // Slots of eight signs; the first four words, and their numbers, are the same for both kinds.
        static final int SLOT = 8;
        static final String LAW_WORDS =
                "when    or      and     not     turn    no      bang    crack   wall    gap     walls   near    ";
        static final String RULE_WORDS =
                "when    or      and     not     shot    truck   board   loud    long    ahead   behind  ";
        static final int WHEN = 0;
        static final int FIRST_OWN_WORD = 4;
        static final int LAW_KINDS = 5;
        static final int LAW_VALUES = 6;
        static final int RULE_VALUES = 7;
        static final int END = 14;
        static final int BAD = 15;
        static final String SIGNS = ";+-*/()<=>";

        static final int AT_LINE = 0;
        static final int AT_KIND = 1;
        static final int AT_WHEN = 2;
        static final int AT_CLAIM = 3;
        static final int AT_UNIT = 4;
        static final int AT_PART = 5;
        static final int AT_SIGN = 6;
        static final int AT_JOINT = 7;

        static final int MOST_LINES = 12;
        static final int MOST_OPEN = 8;
        static final int MOST_WAITING = 40;

        static final int WRONG_PLACE = 1;
        static final int PART_BY_ZERO = 2;
        static final int TOO_MUCH = 3;

        final byte[] bytes = new byte[MOST_BYTES];
        int length;
        int fault;
        int faultPlace = NONE;

        private boolean isLaw;
        private int at;
        private int token;
        private int number;
        private int place;
        private int state;
        private boolean compared;
        private int lines;
        private int outcome;
        private int open;
        private int brackets;
        private final int[] waiting = new int[MOST_WAITING];
        private int waitingCount;
        private final int[] code = new int[MOST_BYTES];
        private int codeCount;

        void append(int four) {
            for (int shift = 24; shift >= 0; shift -= 8) {
                if (length < bytes.length) {
                    bytes[length] = (byte) (four >> shift);
                    length++;
                }
            }
        }

        /** The bytes go without being read: no fault. */
        void drop() {
            length = 0;
            fault = 0;
            faultPlace = NONE;
        }

        /** The number of lines of the text, which the script then has; NONE if there is a fault. */
        int read(boolean law, Script script) {
            start(law);
            fault = 0;
            // One token more than bytes: the end is a token, too.
            for (int i = 0; i <= MOST_BYTES && fault == 0; i++) {
                scan();
                if (token == END && state == AT_LINE) {
                    break;
                }
                fault = take();
            }
            faultPlace = fault == 0 ? NONE : place;
            length = 0;
            if (fault != 0) {
                return NONE;
            }
            script.code = Arrays.copyOf(code, codeCount);
            return lines;
        }

        private void start(boolean law) {
            isLaw = law;
            at = 0;
            state = AT_LINE;
            lines = 0;
            open = 0;
            brackets = 0;
            waitingCount = 0;
            codeCount = 0;
        }

        // ---- tokens ----

        private int byteAt(int i) {
            return i >= 0 && i < length && i < bytes.length ? bytes[i] & 255 : 0;
        }

        private void scan() {
            while (at < length && (byteAt(at) == ' ' || byteAt(at) == 10)) {
                at++;
            }
            place = at;
            if (at >= length) {
                token = END;
            } else if (isLetter(byteAt(at))) {
                scanWord();
            } else if (isDigit(byteAt(at))) {
                scanNumber();
            } else {
                int sign = byteAt(at);
                token = SIGNS.indexOf((char) sign) >= 0 ? sign : BAD;
                at++;
            }
        }

        private void scanWord() {
            while (at < length && isLetter(byteAt(at))) {
                at++;
            }
            String words = isLaw ? LAW_WORDS : RULE_WORDS;
            token = BAD;
            for (int k = 0; SLOT * k < words.length(); k++) {
                if (isWord(words, SLOT * k)) {
                    token = k;
                }
            }
        }

        /** Whether the letters from place up to here are the word that stands in a slot. */
        private boolean isWord(String words, int slot) {
            if (at - place >= SLOT || slot + SLOT > words.length()) {
                return false;
            }
            for (int i = 0; i < SLOT; i++) {
                int letter = place + i < at ? byteAt(place + i) : ' ';
                if (words.charAt(slot + i) != letter) {
                    return false;
                }
            }
            return true;
        }

        private void scanNumber() {
            number = 0;
            while (at < length && isDigit(byteAt(at))) {
                // More than five digits are no number: what they would be is not needed.
                if (at - place < 5) {
                    number = 10 * number + byteAt(at) - '0';
                }
                at++;
            }
            token = at - place <= 5 ? Script.NUMBER : BAD;
        }

        private static boolean isLetter(int sign) {
            return within(sign, 'a', 'z') || within(sign, 'A', 'Z');
        }

        private static boolean isDigit(int sign) {
            return within(sign, '0', '9');
        }

        // ---- what may stand where: each answers the fault, 0 for none ----

        private int take() {
            switch (state) {
                case AT_LINE:
                    return takeLine();
                case AT_KIND:
                    return takeKind();
                case AT_WHEN:
                    return takeWhen();
                case AT_CLAIM:
                    return takeClaim();
                case AT_UNIT:
                    return takeUnit();
                case AT_PART:
                    return takePart();
                case AT_SIGN:
                    return takeSign();
                default:
                    return takeJoint();
            }
        }

        private int takeLine() {
            int lastWord = isLaw ? FIRST_OWN_WORD : RULE_VALUES - 1;
            if (!within(token, FIRST_OWN_WORD, lastWord)) {
                return WRONG_PLACE;
            }
            if (lines >= MOST_LINES) {
                return TOO_MUCH;
            }
            lines++;
            outcome = token - FIRST_OWN_WORD + 1;
            state = isLaw ? AT_KIND : AT_WHEN;
            return 0;
        }

        private int takeKind() {
            if (!within(token, LAW_KINDS, LAW_KINDS + 3)) {
                return WRONG_PLACE;
            }
            outcome = token - LAW_KINDS;
            state = AT_WHEN;
            return 0;
        }

        private int takeWhen() {
            state = AT_CLAIM;
            return token == WHEN ? 0 : WRONG_PLACE;
        }

        private int takeClaim() {
            compared = false;
            if (token != '(' && token != Script.NOT) {
                return takeUnit();
            }
            if (open >= MOST_OPEN) {
                return TOO_MUCH;
            }
            open++;
            if (token == '(') {
                brackets++;
            }
            hold(token);
            return 0;
        }

        private int takeUnit() {
            state = AT_SIGN;
            int firstValue = isLaw ? LAW_VALUES : RULE_VALUES;
            if (token == Script.NUMBER) {
                emit(Script.NUMBER, number);
                return 0;
            }
            if (!within(token, firstValue, Script.NUMBER - 1)) {
                return WRONG_PLACE;
            }
            emit(Script.VALUE, token - firstValue);
            return 0;
        }

        private int takePart() {
            if (token != Script.NUMBER) {
                return WRONG_PLACE;
            }
            if (number == 0) {
                return PART_BY_ZERO;
            }
            emit('/', number);
            state = AT_SIGN;
            return 0;
        }

        private int takeSign() {
            if (token == '/') {
                release(rank('*'));
                state = AT_PART;
                return 0;
            }
            boolean compares = token == '<' || token == '=' || token == '>';
            if (compares && !compared) {
                compared = true;
            } else if (token != '+' && token != '-' && token != '*') {
                return compared ? takeJoint() : WRONG_PLACE;
            }
            release(rank(token));
            hold(token);
            state = AT_UNIT;
            return 0;
        }

        private int takeJoint() {
            if (token == Script.OR || token == Script.AND) {
                release(rank(token));
                hold(token);
                state = AT_CLAIM;
                return 0;
            }
            if (token == ')' && brackets > 0) {
                release(rank(Script.OR));
                dropBracket();
                state = AT_JOINT;
                return 0;
            }
            if (token == ';' && brackets == 0) {
                release(rank(Script.OR));
                emit(';', outcome);
                state = AT_LINE;
                return 0;
            }
            return WRONG_PLACE;
        }

        // ---- operators that wait ----

        private static int rank(int sign) {
            switch (sign) {
                case '*':
                    return 6;
                case '+':
                case '-':
                    return 5;
                case '<':
                case '=':
                case '>':
                    return 4;
                case Script.NOT:
                    return 3;
                case Script.AND:
                    return 2;
                case Script.OR:
                    return 1;
                default:
                    return 0;
            }
        }

        private void hold(int sign) {
            if (waitingCount < waiting.length) {
                waiting[waitingCount] = sign;
                waitingCount++;
            }
        }

        /** What waits and binds as strongly or more is complete; a ( has no rank and holds back what is outside. */
        private void release(int leastRank) {
            while (waitingCount > 0 && rank(waiting[waitingCount - 1]) >= leastRank) {
                waitingCount--;
                if (waiting[waitingCount] == Script.NOT) {
                    open--;
                }
                emit(waiting[waitingCount], 0);
            }
        }

        private void dropBracket() {
            brackets--;
            open--;
            if (waitingCount > 0) {
                waitingCount--;
            }
        }

        private void emit(int sign, int value) {
            if (codeCount < code.length) {
                code[codeCount] = sign << Script.SHIFT | value;
                codeCount++;
            }
        }
    }

    /** The hearers, and the laws by which they turn. */
    private static final class Crowd {
        static final int BANG = 1;
        static final int CRACK = 2;
        static final int WALL = 3;

        final Heard heard;
        final Script[] laws;
        final int[] cells;
        final int[] turned;
        int count;
        private final int[] values;
        private final int[] sectors;
        private int bangSector;
        private int crackSector;
        private int wallSector;

        Crowd(Heard ear) {
            heard = ear;
            laws = new Script[LAWS];
            for (int i = 0; i < LAWS; i++) {
                laws[i] = new Script();
            }
            cells = new int[MOST_HEARERS];
            turned = new int[MOST_HEARERS];
            values = new int[6];
            sectors = new int[LAWS];
        }

        /** A hearer hears a shot: what the laws ask, in the order of the reader's words, and where it came from. */
        void attend(int hearer, Shot shot) {
            int cell = cells[hearer];
            heard.listen(shot, cell);
            int wall = heard.loudestWall;
            boolean cracks = heard.crackTime != NONE;
            values[0] = loudness(heard.near);
            values[1] = cracks ? heard.crackLoud : 0;
            values[2] = wall == NONE ? 0 : heard.backLouds[wall];
            values[3] = cracks ? heard.bangTime - heard.crackTime : 0;
            values[4] = heard.backCount;
            values[5] = heard.near;
            bangSector = sectorOf(shot.cell, cell);
            crackSector = cracks ? sectorOf(heard.crackCell, cell) : NONE;
            wallSector = wall == NONE ? NONE : sectorOf(heard.backCells[wall], cell);
        }

        /** Where the hearer who attended last turns by a law. */
        int sectorBy(int law) {
            switch (laws[law].decide(values)) {
                case BANG:
                    return bangSector;
                case CRACK:
                    return crackSector;
                case WALL:
                    return wallSector;
                default:
                    return NONE;
            }
        }

        int countFitting(int law, Shot[] shots, int story) {
            int fitting = 0;
            for (int h = 0; h < count; h++) {
                boolean suits = false;
                for (int s = 0; s < shots.length && !suits; s++) {
                    if ((story >> s & 1) != 0) {
                        attend(h, shots[s]);
                        suits = sectorBy(law) == turned[h];
                    }
                }
                if (suits) {
                    fitting++;
                }
            }
            return fitting;
        }

        static int coupleBit(int law, int other) {
            return 1 << LAWS * law + other;
        }

        /** All couples of a set of laws, as a set. */
        static int couplesOf(int set) {
            int couples = 0;
            for (int a = 0; a < LAWS; a++) {
                for (int b = a + 1; b < LAWS; b++) {
                    if ((set >> a & 1) != 0 && (set >> b & 1) != 0) {
                        couples |= coupleBit(a, b);
                    }
                }
            }
            return couples;
        }

        /** The couples of laws by which some hearer turns unlike. */
        int partedBy(Shot shot) {
            int parted = 0;
            for (int h = 0; h < count; h++) {
                attend(h, shot);
                for (int b = 0; b < LAWS; b++) {
                    sectors[b] = sectorBy(b);
                    for (int a = 0; a < b; a++) {
                        if (sectors[a] != sectors[b]) {
                            parted |= coupleBit(a, b);
                        }
                    }
                }
            }
            return parted;
        }
    }

    /** Places, each of which lies, moved by one number that is the same for all, in a from .. to. */
    private static final class Spans {
        final int[] place;
        final int[] from;
        final int[] to;
        int count;

        Spans(int most) {
            int room = Math.max(0, most);
            place = new int[room];
            from = new int[room];
            to = new int[room];
        }

        int add(int where, int first, int last) {
            if (count >= place.length) {
                return NONE;
            }
            place[count] = where;
            from[count] = first;
            to[count] = last;
            count++;
            return count - 1;
        }

        /** Whether there is such a number for all of them but one; a from NONE asks nothing. */
        boolean agreeWithout(int left) {
            int least = -BEYOND_ALL;
            int most = BEYOND_ALL;
            for (int i = 0; i < count; i++) {
                if (i != left && from[i] != NONE) {
                    least = Math.max(least, from[i] - place[i]);
                    most = Math.min(most, to[i] - place[i]);
                }
            }
            return least <= most;
        }

        int overAlone() {
            if (agreeWithout(NONE)) {
                return NONE;
            }
            int alone = NONE;
            for (int i = 0; i < count; i++) {
                if (agreeWithout(i)) {
                    if (alone != NONE) {
                        return NONE;
                    }
                    alone = i;
                }
            }
            return alone;
        }
    }

    /** A tape: its clicks, its voices, and how couples of spots fit it. */
    private static final class Tape {
        final Heard heard;
        final int[] spots;
        final int[] clicks;
        int clickCount;
        final Spans voices;
        private final Shot bang;
        private final int[] wallClicks;
        int matched;
        int sounds;
        int bestCouple;
        int bestMatched;
        int asWell;

        Tape(Heard ear, int[] places) {
            heard = ear;
            spots = places;
            clicks = new int[MOST_CLICKS];
            voices = new Spans(MOST_VOICES);
            bang = new Shot();
            wallClicks = new int[MOST_WALLS];
        }

        int addClick(int time) {
            boolean rises = clickCount == 0 || time > clicks[clickCount - 1];
            if (!rises || clickCount >= MOST_CLICKS) {
                return NONE;
            }
            clicks[clickCount] = time;
            clickCount++;
            return clickCount;
        }

        /** The clicks not farther off than the margin, as a set. */
        private int clicksNear(int time, int margin) {
            int near = 0;
            for (int i = 0; i < clickCount; i++) {
                if (Math.abs(clicks[i] - time) <= margin) {
                    near |= 1 << i;
                }
            }
            return near;
        }

        /** Where on the tape a sound off a wall lies, with the bang of the latest listening on the first click. */
        private int backPlace(int wall) {
            return clicks[0] + heard.backTimes[wall] - heard.bangTime;
        }

        void lay(int shotSpot, int earSpot, int margin) {
            bang.fire(spots[shotSpot], 0, NONE, 0);
            heard.listen(bang, spots[earSpot]);
            // The bang lies on the first click, so it always has one.
            matched = 1;
            sounds = 1 + heard.backCount;
            for (int w = 0; w < MOST_WALLS; w++) {
                wallClicks[w] = heard.backCells[w] == NONE ? 0 : clicksNear(backPlace(w), margin);
                if (wallClicks[w] != 0) {
                    matched++;
                }
            }
        }

        void searchCouple(int margin) {
            bestCouple = NONE;
            bestMatched = 0;
            asWell = 0;
            int bestMissing = 0;
            for (int s = 0; s < MOST_SPOTS; s++) {
                for (int e = 0; e < MOST_SPOTS; e++) {
                    if (s != e && spots[s] != NONE && spots[e] != NONE) {
                        lay(s, e, margin);
                        int missing = sounds - matched;
                        if (matched > bestMatched) {
                            asWell = 0;
                        }
                        if (matched > bestMatched || matched == bestMatched && missing < bestMissing) {
                            bestCouple = 10 * s + e;
                            bestMatched = matched;
                            bestMissing = missing;
                        }
                        if (matched == bestMatched) {
                            asWell++;
                        }
                    }
                }
            }
        }

        int fewestWalls(int shotSpot, int earSpot, int margin, int wallCount) {
            lay(shotSpot, earSpot, margin);
            int ofBang = clicksNear(clicks[0], margin);
            int all = ofBang | unionOf(wallClicks, (1 << MOST_WALLS) - 1);
            int best = NONE;
            for (int set = 0; set < 1 << wallCount; set++) {
                // What fewer walls reach is a part of what all reach: as many clicks are the same clicks.
                if ((ofBang | unionOf(wallClicks, set)) == all && isFewer(set, best)) {
                    best = set;
                }
            }
            return best;
        }
    }

    /** The noises, and the rules that sort them. */
    private static final class Noises {
        static final int SHOT = 1;

        final Script rules;
        final int[] louds;
        final int[] lengths;
        final int[] times;
        final int[] trulies;
        int count;
        private final int[] values;

        Noises() {
            rules = new Script();
            louds = new int[MOST_NOISES];
            lengths = new int[MOST_NOISES];
            times = new int[MOST_NOISES];
            trulies = new int[MOST_NOISES];
            values = new int[4];
        }

        int add(int loud, int length, int time, int truly) {
            if (count >= MOST_NOISES) {
                return NONE;
            }
            louds[count] = loud;
            lengths[count] = length;
            times[count] = time;
            trulies[count] = truly;
            count++;
            return count - 1;
        }

        /** What a noise is by the rules. */
        int sort(int i) {
            int ahead = FAR_OFF;
            int behind = FAR_OFF;
            for (int j = 0; j < count; j++) {
                int gap = Math.abs(times[j] - times[i]);
                if (isAhead(j, i)) {
                    ahead = Math.min(ahead, gap);
                } else if (j != i) {
                    behind = Math.min(behind, gap);
                }
            }
            values[0] = louds[i];
            values[1] = lengths[i];
            values[2] = ahead;
            values[3] = behind;
            return rules.decide(values);
        }

        private boolean isAhead(int j, int i) {
            return times[j] < times[i] || times[j] == times[i] && j < i;
        }

        int countSentWrongly() {
            int sent = 0;
            for (int i = 0; i < count; i++) {
                if (trulies[i] != SHOT && sort(i) == SHOT) {
                    sent++;
                }
            }
            return sent;
        }

        int countMissed() {
            int missed = 0;
            for (int i = 0; i < count; i++) {
                if (trulies[i] == SHOT && sort(i) != SHOT) {
                    missed++;
                }
            }
            return missed;
        }
    }

    /** Which couples of spots two ears on spots tell apart, made once for all sets that are asked. */
    private static final class Roofs {
        final Square square;
        final int[] spots;
        private final int[] times;
        private final long[] toldApart;

        Roofs(Square where, int[] places) {
            square = where;
            spots = places;
            times = new int[MOST_SPOTS * MOST_SPOTS];
            toldApart = new long[MOST_SPOTS * MOST_SPOTS];
        }

        void prepare(int doubt) {
            for (int p = 0; p < MOST_SPOTS; p++) {
                for (int e = 0; e < MOST_SPOTS; e++) {
                    boolean told = spots[p] != NONE && spots[e] != NONE;
                    times[MOST_SPOTS * p + e] = told ? square.travel(spots[p], spots[e]) : 0;
                }
            }
            for (int e = 0; e < MOST_SPOTS; e++) {
                for (int f = e + 1; f < MOST_SPOTS; f++) {
                    toldApart[MOST_SPOTS * e + f] = apartBy(e, f, doubt);
                }
            }
        }

        /** The couples that two ears tell apart, as a set of up to 45. */
        private long apartBy(int e, int f, int doubt) {
            long couples = 0;
            int couple = 0;
            for (int p = 0; p < MOST_SPOTS; p++) {
                for (int q = p + 1; q < MOST_SPOTS; q++) {
                    boolean told = spots[p] != NONE && spots[q] != NONE;
                    if (told && Math.abs(later(p, e, f) - later(q, e, f)) > doubt) {
                        couples |= 1L << couple;
                    }
                    couple++;
                }
            }
            return couples;
        }

        /** By how much the sound from a spot comes later to the one ear than to the other. */
        private int later(int spot, int ear, int other) {
            return times[MOST_SPOTS * spot + ear] - times[MOST_SPOTS * spot + other];
        }

        int countApart(int set) {
            long couples = 0;
            for (int e = 0; e < MOST_SPOTS; e++) {
                for (int f = e + 1; f < MOST_SPOTS; f++) {
                    if ((set >> e & 1) != 0 && (set >> f & 1) != 0) {
                        couples |= toldApart[MOST_SPOTS * e + f];
                    }
                }
            }
            return Long.bitCount(couples);
        }
    }
}
