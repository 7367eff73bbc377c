import java.util.ArrayList;
import java.util.List;
import java.util.Map;
import java.util.HashMap;
import java.util.TreeMap;

/** The document once more, written as plainly as the Java library allows, to compare with. */
final class Model {
    static final int NONE = -1;

    record Wall(boolean upright, int at, int a, int b, int dull) { }

    record Shot(int cell, int time, int aim, int quick) { }

    record Sound(int time, int loud, int cell) { }

    record Hearer(int cell, int turned) { }

    record Voice(int place, int from, int to) { }

    record Noise(int loud, int length, int time, int truly) { }

    int slow = 3;
    int wx;
    int wy;
    int margin = 5;
    final List<Wall> walls = new ArrayList<>();
    final TreeMap<Integer, Integer> spots = new TreeMap<>();
    final List<Shot> shots = new ArrayList<>();
    final List<Hearer> hearers = new ArrayList<>();
    final int[] stories = new int[6];
    final List<Integer> ears = new ArrayList<>();
    final Map<Integer, int[]> gots = new HashMap<>();
    final List<List<Integer>> clicks = new ArrayList<>();
    final List<List<Voice>> voices = new ArrayList<>();
    final List<Noise> noises = new ArrayList<>();
    final List<Integer> bytes = new ArrayList<>();
    final ModelText[] texts = new ModelText[5];
    int fault;
    int place = NONE;
    int ballAim = NONE;
    int ballQuick;

    Model() {
        for (int i = 0; i < 4; i++) {
            clicks.add(new ArrayList<>());
            voices.add(new ArrayList<>());
        }
        for (int i = 0; i < 5; i++) {
            texts[i] = new ModelText("", i < 4);
        }
    }

    static boolean cell(int c) {
        return c >= 0 && c < 3600;
    }

    static int dist(int x, int y, int ox, int oy) {
        long sum = (long) (x - ox) * (x - ox) + (long) (y - oy) * (y - oy);
        int root = 0;
        while ((long) (root + 1) * (root + 1) <= sum) {
            root++;
        }
        return root;
    }

    static int dist(int c, int o) {
        return dist(c % 60, c / 60, o % 60, o / 60);
    }

    static int loud(int distance) {
        return 10000 / (distance + 10);
    }

    int travel(int c, int o) {
        double wind = Math.floor((wx * (o % 60 - c % 60) + wy * (o / 60 - c / 60)) / 8.0);
        return Math.max(0, slow * dist(c, o) - (int) wind);
    }

    static int sector(int c, int from) {
        int dx = c % 60 - from % 60;
        int dy = c / 60 - from / 60;
        for (int half = 0; half < 2; half++) {
            if (dx > 0 && dy >= 0 && dy < dx) {
                return 4 * half;
            }
            if (dx > 0 && dy >= dx) {
                return 4 * half + 1;
            }
            if (dx <= 0 && dy > -dx) {
                return 4 * half + 2;
            }
            if (dx < 0 && dy > 0 && dy <= -dx) {
                return 4 * half + 3;
            }
            dx = -dx;
            dy = -dy;
        }
        return NONE;
    }

    boolean set(int what, int v) {
        boolean can = what == 0 && v >= 1 && v <= 9 || (what == 1 || what == 2) && v >= -9 && v <= 9
                || what == 3 && v >= 0 && v <= 99;
        if (can) {
            slow = what == 0 ? v : slow;
            wx = what == 1 ? v : wx;
            wy = what == 2 ? v : wy;
            margin = what == 3 ? v : margin;
        }
        return can;
    }

    int comes(int from, int to, int what) {
        if (!cell(from) || !cell(to) || what < 0 || what > 2) {
            return NONE;
        }
        return what == 0 ? travel(from, to) : what == 1 ? loud(dist(from, to)) : sector(from, to);
    }

    int wall(boolean upright, int at, int a, int b, int dull) {
        if (at < 0 || at > 59 || a < 0 || a > b || b > 59 || dull < 0 || dull > 100 || walls.size() == 10) {
            return NONE;
        }
        walls.add(new Wall(upright, at, a, b, dull));
        return walls.size() - 1;
    }

    boolean spot(int k, int c) {
        if (k < 0 || k > 9 || !cell(c)) {
            return false;
        }
        spots.put(k, c);
        return true;
    }

    int shot(int c, int time, int aim, int quick) {
        if (!cell(c) || time < 0 || time > 99999 || shots.size() == 10) {
            return NONE;
        }
        if (aim != NONE && (!cell(aim) || aim == c || quick < 1 || quick > 99)) {
            return NONE;
        }
        shots.add(new Shot(c, time, aim, quick));
        return shots.size() - 1;
    }

    Sound bang(Shot s, int ear) {
        return new Sound(s.time + travel(s.cell, ear), loud(dist(s.cell, ear)), s.cell);
    }

    Sound crack(Shot s, int ear) {
        Sound best = null;
        if (s.aim == NONE) {
            return null;
        }
        int dx = s.aim % 60 - s.cell % 60;
        int dy = s.aim / 60 - s.cell / 60;
        int n = Math.max(Math.abs(dx), Math.abs(dy));
        for (int k = 0; k <= n; k++) {
            int x = s.cell % 60 + (int) Math.floor((double) (dx * k) / n);
            int y = s.cell / 60 + (int) Math.floor((double) (dy * k) / n);
            int point = 60 * y + x;
            int time = s.time + s.quick * dist(s.cell, point) / 10 + travel(point, ear);
            if (best == null || best.time > time) {
                best = new Sound(time, 2 * loud(dist(point, ear)), point);
            }
        }
        return best;
    }

    /** With coordinates as they are, and the fraction by the way from the mirrored point. */
    Sound back(Shot s, int ear, int w) {
        if (w >= walls.size()) {
            return null;
        }
        Wall wall = walls.get(w);
        int sx = s.cell % 60;
        int sy = s.cell / 60;
        int ex = ear % 60;
        int ey = ear / 60;
        int mx = wall.upright ? 2 * wall.at - sx : sx;
        int my = wall.upright ? sy : 2 * wall.at - sy;
        int s1 = Integer.signum((wall.upright ? sx : sy) - wall.at);
        int s2 = Integer.signum((wall.upright ? ex : ey) - wall.at);
        if (s1 * s2 != 1) {
            return null;
        }
        // From m to e: at + t (e - m), t = (at - m) by (e - m) on the one axis.
        long top = wall.upright ? wall.at - mx : wall.at - my;
        long low = wall.upright ? ex - mx : ey - my;
        if (low < 0) {
            top = -top;
            low = -low;
        }
        long start = wall.upright ? my : mx;
        long end = wall.upright ? ey : ex;
        long cross = start * low + top * (end - start);
        if (cross < wall.a * low || cross > wall.b * low) {
            return null;
        }
        int at = (int) Math.floorDiv(cross, low);
        int way = dist(mx, my, ex, ey);
        return new Sound(s.time + slow * way, (100 - wall.dull) * loud(way) / 100,
                wall.upright ? 60 * at + wall.at : 60 * wall.at + at);
    }

    int gets(int shot, int c, int what) {
        if (shot < 0 || shot >= shots.size() || !cell(c) || what < 0 || what > 59) {
            return NONE;
        }
        Shot s = shots.get(shot);
        Sound crack = crack(s, c);
        if (what == 0) {
            return bang(s, c).time;
        }
        if (what >= 1 && what <= 3) {
            return crack == null ? NONE : what == 1 ? crack.time : what == 2 ? crack.cell : crack.loud;
        }
        if (what == 4) {
            return backs(s, c).size();
        }
        Sound back = back(s, c, what % 10);
        if (back == null || what < 10) {
            return NONE;
        }
        return what / 10 == 1 ? back.time : what / 10 == 3 ? back.loud : what / 10 == 5 ? back.cell : NONE;
    }

    TreeMap<Integer, Sound> backs(Shot s, int c) {
        TreeMap<Integer, Sound> all = new TreeMap<>();
        for (int w = 0; w < walls.size(); w++) {
            Sound back = back(s, c, w);
            if (back != null) {
                all.put(w, back);
            }
        }
        return all;
    }

    int feed(int... numbers) {
        if (bytes.size() + 20 > 400) {
            return NONE;
        }
        for (int n : numbers) {
            bytes.add(n >>> 24);
            bytes.add(n >>> 16 & 255);
            bytes.add(n >>> 8 & 255);
            bytes.add(n & 255);
        }
        return bytes.size();
    }

    boolean end(int n) {
        if (n < 0 || n > bytes.size()) {
            return false;
        }
        bytes.subList(n, bytes.size()).clear();
        return true;
    }

    int text(int k) {
        StringBuilder text = new StringBuilder();
        for (int b : bytes) {
            text.append((char) b);
        }
        bytes.clear();
        fault = 0;
        place = NONE;
        if (k < 0 || k > 4) {
            return NONE;
        }
        ModelText read = new ModelText(text.toString(), k < 4);
        if (read.fault != 0) {
            fault = read.fault;
            place = read.place;
            return NONE;
        }
        texts[k] = read;
        return read.lines.size();
    }

    int fault(int what) {
        return what == 0 ? fault : what == 1 ? place : NONE;
    }

    int hearer(int c, int turned) {
        if (!cell(c) || turned < -1 || turned > 7 || hearers.size() == 20) {
            return NONE;
        }
        hearers.add(new Hearer(c, turned));
        return hearers.size() - 1;
    }

    int turns(int law, int c, Shot s) {
        Sound bang = bang(s, c);
        Sound crack = crack(s, c);
        TreeMap<Integer, Sound> backs = backs(s, c);
        Sound wall = null;
        for (Sound b : backs.values()) {
            wall = wall == null || b.loud > wall.loud ? b : wall;
        }
        Map<String, Integer> values = new HashMap<>();
        values.put("bang", bang.loud);
        values.put("crack", crack == null ? 0 : crack.loud);
        values.put("wall", wall == null ? 0 : wall.loud);
        values.put("gap", crack == null ? 0 : bang.time - crack.time);
        values.put("walls", backs.size());
        values.put("near", dist(s.cell, c));
        String told = texts[law].tell(values);
        Sound sound = told.equals("bang") ? bang : told.equals("crack") ? crack : told.equals("wall") ? wall : null;
        return sound == null ? NONE : sector(sound.cell, c);
    }

    int turning(int law, int hearer, int shot) {
        if (law < 0 || law > 3 || hearer < 0 || hearer >= hearers.size() || shot < 0 || shot >= shots.size()) {
            return NONE;
        }
        return turns(law, hearers.get(hearer).cell, shots.get(shot));
    }

    boolean story(int k, int set) {
        if (k < 0 || k > 5 || set < 0 || set > 1023 || set >= Math.pow(2, shots.size())) {
            return false;
        }
        stories[k] = set;
        return true;
    }

    int stories(int law, int what) {
        if (law < 0 || law > 3 || what < 0 || what > 6) {
            return NONE;
        }
        int[] fits = new int[6];
        int best = NONE;
        for (int k = 0; k < 6; k++) {
            for (Hearer h : hearers) {
                boolean fit = false;
                for (int s = 0; s < shots.size(); s++) {
                    fit |= (stories[k] & 1 << s) != 0 && turns(law, h.cell, shots.get(s)) == h.turned;
                }
                fits[k] += fit ? 1 : 0;
            }
            if (stories[k] != 0 && (best == NONE || fits[k] > fits[best])) {
                best = k;
            }
        }
        return what == 6 ? best : fits[what];
    }

    int ear(int c) {
        if (!cell(c) || ears.size() == 8) {
            return NONE;
        }
        ears.add(c);
        return ears.size() - 1;
    }

    boolean got(int ear, int from, int to) {
        if (ear < 0 || ear >= ears.size()) {
            return false;
        }
        if (from == NONE) {
            gots.remove(ear);
            return true;
        }
        if (from < 0 || to < from || to > 199999) {
            return false;
        }
        gots.put(ear, new int[] {from, to});
        return true;
    }

    /** Tries the whole numbers by which the first ear that got it would have it. */
    boolean mayBeFrom(int c) {
        if (gots.isEmpty()) {
            return true;
        }
        int first = gots.keySet().iterator().next();
        int way = travel(c, ears.get(first));
        for (int t = gots.get(first)[0] - way; t <= gots.get(first)[1] - way; t++) {
            boolean all = true;
            for (Map.Entry<Integer, int[]> g : gots.entrySet()) {
                int at = t + travel(c, ears.get(g.getKey()));
                all &= at >= g.getValue()[0] && at <= g.getValue()[1];
            }
            if (all) {
                return true;
            }
        }
        return false;
    }

    int from(int what) {
        List<Integer> cells = new ArrayList<>();
        for (int c = 0; c < 3600; c++) {
            if (mayBeFrom(c)) {
                cells.add(c);
            }
        }
        if (what == 0) {
            return cells.size();
        }
        if (cells.isEmpty() || what < 0 || what > 2) {
            return NONE;
        }
        return cells.get(what == 1 ? 0 : cells.size() - 1);
    }

    int click(int tape, int time) {
        if (tape < 0 || tape > 3 || time < 0 || time > 199999 || clicks.get(tape).size() == 20) {
            return NONE;
        }
        List<Integer> row = clicks.get(tape);
        if (!row.isEmpty() && row.get(row.size() - 1) >= time) {
            return NONE;
        }
        row.add(time);
        return row.size();
    }

    boolean couple(int tape, int s, int e, int dummy) {
        return tape >= 0 && tape <= 3 && !clicks.get(tape).isEmpty() && s != e && spots.containsKey(s)
                && spots.containsKey(e);
    }

    /** The places of bang and backs on a tape; those off walls that are not in the set are left out. */
    List<Integer> laid(int tape, int s, int e, int set) {
        Shot shot = new Shot(spots.get(s), 0, NONE, 0);
        int move = clicks.get(tape).get(0) - bang(shot, spots.get(e)).time;
        List<Integer> places = new ArrayList<>();
        places.add(clicks.get(tape).get(0));
        for (Map.Entry<Integer, Sound> b : backs(shot, spots.get(e)).entrySet()) {
            if ((set >> b.getKey() & 1) != 0) {
                places.add(b.getValue().time + move);
            }
        }
        return places;
    }

    int countNear(List<Integer> of, List<Integer> to) {
        return (int) of.stream().filter(t -> to.stream().anyMatch(c -> Math.abs(c - t) <= margin)).count();
    }

    int fits(int tape, int s, int e, int what) {
        if (!couple(tape, s, e, 0) || what < 0 || what > 1) {
            return NONE;
        }
        List<Integer> sounds = laid(tape, s, e, 1023);
        return what == 1 ? sounds.size() : countNear(sounds, clicks.get(tape));
    }

    int couple(int tape, int what) {
        int best = NONE;
        int bestKey = NONE;
        int most = 0;
        for (int s : spots.keySet()) {
            for (int e : spots.keySet()) {
                if (couple(tape, s, e, 0)) {
                    int have = fits(tape, s, e, 0);
                    int key = 1000 * have + 100 - (fits(tape, s, e, 1) - have);
                    most = Math.max(most, have);
                    if (key > bestKey) {
                        bestKey = key;
                        best = 10 * s + e;
                    }
                }
            }
        }
        if (best == NONE || what < 0 || what > 2) {
            return NONE;
        }
        int asWell = 0;
        for (int s : spots.keySet()) {
            for (int e : spots.keySet()) {
                asWell += s != e && fits(tape, s, e, 0) == most ? 1 : 0;
            }
        }
        return what == 0 ? best : what == 1 ? most : asWell;
    }

    int must(int tape, int s, int e) {
        if (!couple(tape, s, e, 0)) {
            return NONE;
        }
        int all = countNear(clicks.get(tape), laid(tape, s, e, 1023));
        for (int size = 0; size <= walls.size(); size++) {
            for (int set = 0; set < 1 << walls.size(); set++) {
                if (Integer.bitCount(set) == size && countNear(clicks.get(tape), laid(tape, s, e, set)) == all) {
                    return set;
                }
            }
        }
        throw new IllegalStateException();
    }

    int voice(int tape, int at, int from, int to) {
        if (tape < 0 || tape > 3 || at < 0 || at > 199999 || from < 0 || to < from || to > 9999999
                || voices.get(tape).size() == 10) {
            return NONE;
        }
        voices.get(tape).add(new Voice(at, from, to));
        return voices.get(tape).size() - 1;
    }

    boolean canBe(int tape, int without) {
        long least = Long.MIN_VALUE;
        long most = Long.MAX_VALUE;
        for (int i = 0; i < voices.get(tape).size(); i++) {
            Voice v = voices.get(tape).get(i);
            if (i != without) {
                least = Math.max(least, v.from - v.place);
                most = Math.min(most, v.to - v.place);
            }
        }
        return least <= most;
    }

    int over(int tape, int what) {
        if (tape < 0 || tape > 3 || what < 0 || what > 1) {
            return NONE;
        }
        if (what == 0) {
            return canBe(tape, NONE) ? 1 : 0;
        }
        List<Integer> such = new ArrayList<>();
        for (int i = 0; i < voices.get(tape).size(); i++) {
            if (canBe(tape, i)) {
                such.add(i);
            }
        }
        return !canBe(tape, NONE) && such.size() == 1 ? such.get(0) : NONE;
    }

    int noise(int loud, int length, int time, int truly) {
        if (loud < 0 || loud > 9999 || length < 0 || length > 999 || time < 0 || time > 199999 || truly < 1
                || truly > 3 || noises.size() == 20) {
            return NONE;
        }
        noises.add(new Noise(loud, length, time, truly));
        return noises.size() - 1;
    }

    int told(int i) {
        List<Integer> order = new ArrayList<>();
        for (int j = 0; j < noises.size(); j++) {
            order.add(j);
        }
        order.sort((a, b) -> noises.get(a).time != noises.get(b).time
                ? Integer.compare(noises.get(a).time, noises.get(b).time) : Integer.compare(a, b));
        int at = order.indexOf(i);
        int time = noises.get(i).time;
        Map<String, Integer> values = new HashMap<>();
        values.put("loud", noises.get(i).loud);
        values.put("long", noises.get(i).length);
        values.put("ahead", at == 0 ? 9999 : Math.min(9999, time - noises.get(order.get(at - 1)).time));
        values.put("behind", at == order.size() - 1 ? 9999
                : Math.min(9999, noises.get(order.get(at + 1)).time - time));
        return List.of("", "shot", "truck", "board").indexOf(texts[4].tell(values));
    }

    int noises(int what) {
        int sent = 0;
        int missed = 0;
        for (int i = 0; i < noises.size(); i++) {
            sent += told(i) == 1 && noises.get(i).truly != 1 ? 1 : 0;
            missed += told(i) != 1 && noises.get(i).truly == 1 ? 1 : 0;
        }
        if (what == 0 || what == 1) {
            return what == 0 ? sent : missed;
        }
        return what >= 10 && what < 10 + noises.size() ? told(what - 10) : NONE;
    }

    boolean ball(int aim, int quick) {
        if (aim != NONE && (!cell(aim) || quick < 1 || quick > 99)) {
            return false;
        }
        ballAim = aim;
        ballQuick = quick;
        return true;
    }

    boolean parts(int spot, int a, int b) {
        int c = spots.get(spot);
        Shot s = new Shot(c, 0, c == ballAim ? NONE : ballAim, ballQuick);
        return hearers.stream().anyMatch(h -> turns(a, h.cell, s) != turns(b, h.cell, s));
    }

    int trials(int laws) {
        if (laws < 1 || laws > 15) {
            return NONE;
        }
        List<Integer> masks = new ArrayList<>();
        for (int a = 0; a < 4; a++) {
            for (int b = a + 1; b < 4; b++) {
                if ((laws >> a & 1) == 1 && (laws >> b & 1) == 1) {
                    int mask = 0;
                    for (int spot : spots.keySet()) {
                        mask |= parts(spot, a, b) ? 1 << spot : 0;
                    }
                    masks.add(mask);
                }
            }
        }
        for (int size = 0; size <= 10; size++) {
            for (int set = 0; set < 1024; set++) {
                int s = set;
                if (Integer.bitCount(set) == size && masks.stream().allMatch(m -> (m & s) != 0)) {
                    return set;
                }
            }
        }
        return NONE;
    }

    int told() {
        return spots.keySet().stream().mapToInt(k -> 1 << k).sum();
    }

    boolean tellsApart(int set, int p, int q, int doubt) {
        for (int e : spots.keySet()) {
            for (int f : spots.keySet()) {
                if (e != f && (set >> e & 1) == 1 && (set >> f & 1) == 1) {
                    int one = travel(spots.get(p), spots.get(e)) - travel(spots.get(p), spots.get(f));
                    int other = travel(spots.get(q), spots.get(e)) - travel(spots.get(q), spots.get(f));
                    if (Math.abs(one - other) > doubt) {
                        return true;
                    }
                }
            }
        }
        return false;
    }

    int apart(int set, int doubt) {
        if (set < 0 || set > 1023 || (set & ~told()) != 0 || doubt < 0 || doubt > 999) {
            return NONE;
        }
        int count = 0;
        for (int p : spots.keySet()) {
            for (int q : spots.keySet()) {
                count += p < q && tellsApart(set, p, q, doubt) ? 1 : 0;
            }
        }
        return count;
    }

    int roofs(int k, int doubt) {
        if (k < 2 || k > 6 || k > spots.size() || doubt < 0 || doubt > 999) {
            return NONE;
        }
        int best = NONE;
        for (int set = 1023; set >= 0; set--) {
            if (Integer.bitCount(set) == k && (set & ~told()) == 0) {
                best = best == NONE || apart(set, doubt) >= apart(best, doubt) ? set : best;
            }
        }
        return best;
    }

    int look(int what) {
        int[] counts = {walls.size(), shots.size(), hearers.size(), ears.size(), noises.size(), spots.size()};
        return what < 0 || what > 5 ? NONE : counts[what];
    }
}
