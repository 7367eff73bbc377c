/** The boundary cases of trials and roofs, Terms 4, promises 27 to 30. */
final class EdgeTrialTest {
    private static final int NONE = BangSquare.NONE;
    private static final Edge edge = new Edge("EdgeTrialTest");

    public static void main(String[] args) {
        parts();
        ballOfTrials();
        fewestSpots();
        fewestNotLeast();
        farther();
        tellsApart();
        bestRoofs();
        promise27();
        promise28();
        promise29();
        promise30();
        edge.close();
    }

    private static int cell(int x, int y) {
        return Check.cell(x, y);
    }

    /** A hearer at 0, 0; law k turns to a bang that is just 10 (k + 1) cells off, so a spot there parts it from the others. */
    private static BangSquare fourLaws() {
        BangSquare s = new BangSquare();
        s.hearer(0, NONE);
        for (int k = 0; k < 4; k++) {
            Check.text(s, k, "turn bang when near=" + 10 * (k + 1) + ";");
        }
        return s;
    }

    private static void parts() {
        edge.says("Terms 4", "A SPOT PARTS two LAWS, if of a SHOT from there");
        BangSquare s = fourLaws();
        s.spot(0, 5);
        edge.due("no law turns: none is parted", s.trials(3), NONE);
        s.spot(0, 10);
        edge.due("law 0 alone turns", s.trials(3), 1);
        edge.due("laws 1 and 2 don't", s.trials(6), NONE);
        edge.says("Terms 4", "some HEARER would TURN unlike by them.");
        BangSquare nobody = new BangSquare();
        Check.text(nobody, 0, "turn bang when 1=1;");
        nobody.spot(0, 10);
        edge.due("nobody hears", nobody.trials(3), NONE);
        nobody.hearer(10, 0);
        edge.due("one at the spot turns nowhere by either", nobody.trials(3), NONE);
        for (int h = 1; h < 19; h++) {
            nobody.hearer(10, 0);
        }
        edge.due("nor do nineteen", nobody.trials(3), NONE);
        nobody.hearer(11, NONE);
        edge.due("the twentieth does; which way one did turn is not asked", nobody.trials(3), 1);
        BangSquare same = new BangSquare();
        same.hearer(0, 0);
        same.spot(0, 10);
        Check.text(same, 0, "turn bang when 1=1;");
        Check.text(same, 1, "turn no when 1=2; turn bang when near>0;");
        edge.due("unlike texts that turn alike", same.trials(3), NONE);
    }

    private static void ballOfTrials() {
        edge.says("Terms 4", "(with the BALL told for all TRIALS; none at the aim itself)");
        BangSquare s = new BangSquare();
        s.hearer(0, 0);
        s.spot(0, 30);
        s.spot(1, 40);
        Check.text(s, 0, "turn bang when crack>0;");
        edge.due("no ball at first", s.trials(3), NONE);
        s.ball(30, 10);
        edge.due("spot 0 is the aim itself: spot 1", s.trials(3), 2);
        s.ball(40, 10);
        edge.due("spot 1 is the aim itself: spot 0", s.trials(3), 1);
        s.spot(1, 30);
        s.ball(30, 99);
        edge.due("both are the aim", s.trials(3), NONE);
        s.ball(NONE, 0);
        edge.due("no ball", s.trials(3), NONE);
        s.ball(31, 1);
        edge.due("the cell next to them", s.trials(3), 1);
        edge.due("the empty law turns by none", s.trials(14), NONE);
        Check.text(s, 1, "turn bang when gap>50;");
        Check.text(s, 2, "turn bang when gap>0;");
        s.ball(0, 1);
        // From 30 the bang takes 90, the crack at the ear itself 3.
        edge.due("gap is 87: laws 1 and 2 alike", s.trials(6), NONE);
        s.ball(0, 20);
        edge.due("by QUICK 20 it is 30: unlike", s.trials(6), 1);
        BangSquare soon = new BangSquare();
        soon.set(0, 1);
        soon.set(1, 9);
        soon.hearer(8, 0);
        soon.spot(0, 0);
        soon.ball(1, 99);
        Check.text(soon, 0, "turn crack when crack>0;");
        edge.due("with the wind it cracks as it is let off, and that is a crack, too", soon.trials(3), 1);
    }

    private static void fewestSpots() {
        edge.says("Terms 4", "TRIALS: the fewest SPOTS that PART all couples of a set of LAWS; of several the least set.");
        BangSquare s = fourLaws();
        for (int laws : new int[] {1, 2, 4, 8}) {
            edge.due("one law has no couple: the empty set, without spots", s.trials(laws), 0);
        }
        s.spot(9, 10);
        for (int laws : new int[] {1, 2, 4, 8}) {
            edge.due("one law has no couple: the empty set", s.trials(laws), 0);
        }
        edge.due("0 from 1, 0 from 2 and so on by spot 9", s.trials(3), 512);
        edge.due("0 from 1 and 2, but 1 from 2 not", s.trials(7), NONE);
        s.spot(8, 20);
        edge.due("0, 1: the least of both", s.trials(3), 256);
        edge.due("0, 1, 2 by both", s.trials(7), 768);
        edge.due("1, 2 by spot 8", s.trials(6), 256);
        edge.due("all four: 2 and 3 are not parted", s.trials(15), NONE);
        s.spot(7, 30);
        edge.due("all four by three", s.trials(15), 896);
        s.spot(6, 40);
        edge.due("all four by the least three", s.trials(15), 448);
        s.spot(0, 30);
        s.spot(1, 40);
        edge.due("two new ones: three of 0, 1, 8", s.trials(15), 259);
        s.spot(8, 40);
        edge.due("20 is told no longer: 0, 1 and 9", s.trials(15), 515);
    }

    private static void fewestNotLeast() {
        edge.says("Terms 4", "the fewest SPOTS that PART all couples of a set of LAWS");
        BangSquare s = new BangSquare();
        s.hearer(0, NONE);
        s.hearer(cell(59, 0), NONE);
        Check.text(s, 0, "turn bang when near=20;");
        Check.text(s, 1, "turn bang when near=39;");
        Check.text(s, 2, "turn bang when near=50;");
        s.spot(0, cell(0, 50));
        s.spot(1, cell(0, 39));
        edge.due("two", s.trials(7), 3);
        s.spot(9, cell(20, 0));
        edge.due("one, though its set is greater", s.trials(7), 512);
    }

    // ---- roofs ----

    /** Spots in a row at cells along y = 0, SLOW 1. */
    private static BangSquare row(int... cells) {
        BangSquare s = new BangSquare();
        s.set(0, 1);
        for (int k = 0; k < cells.length; k++) {
            s.spot(k, cells[k]);
        }
        return s;
    }

    private static void farther() {
        edge.says("Terms 4", "are farther apart than a doubt (0 .. 999).");
        edge.range("doubt", v -> row(0, 10).apart(3, v) != NONE, 0, 999);
        edge.range("doubt of roofs", v -> row(0, 10).roofs(2, v) != NONE, 0, 999);
        // From 0 it comes 10 sooner to the one, from 10 10 later: 20 apart.
        edge.due("doubt 19", row(0, 10).apart(3, 19), 1);
        edge.due("doubt 20", row(0, 10).apart(3, 20), 0);
        edge.due("doubt 0 and alike", row(0, 0).apart(3, 0), 0);
        edge.due("doubt 0 and 1 apart", row(0, 1).apart(3, 1), 1);
        BangSquare far = new BangSquare();
        far.set(0, 9);
        far.spot(0, 0);
        far.spot(1, 3599);
        edge.due("doubt 999 and 1494 apart", far.apart(3, 999), 1);
        far.spot(1, 55);
        edge.due("doubt 990 and 990 apart", far.apart(3, 990), 0);
        edge.due("doubt 989 and 990 apart", far.apart(3, 989), 1);
        far.set(0, 3);
        edge.due("doubt 329 and 330 apart", far.apart(3, 329), 1);
        edge.due("doubt 330 and 330 apart", far.apart(3, 330), 0);
    }

    private static void tellsApart() {
        edge.says("Terms 4", "tells two SPOTS apart, if there are two EARS so that the TIMES by which the sound COMES later to the one than to the other");
        BangSquare s = row(0, 10, 20, 40);
        edge.due("no ear", s.apart(0, 0), 0);
        for (int k = 0; k < 4; k++) {
            edge.due("one ear", s.apart(1 << k, 0), 0);
        }
        edge.due("ears at 0 and 10 tell the first alone", s.apart(3, 0), 3);
        edge.due("ears at 20 and 40: the last alone", s.apart(12, 0), 3);
        edge.due("ears at 10 and 20: all but two couples", s.apart(6, 0), 4);
        edge.due("ears at 0 and 40: all", s.apart(9, 0), 6);
        edge.due("three ears tell what two of them do", s.apart(7, 0), 5);
        edge.due("all four ears", s.apart(15, 0), 6);
        s.set(1, 9);
        // With the wind it is 0 at least, against it 22, 43, 85 to the first ear and 22, 64 to the other: later by 0, 22, 21, 21.
        edge.due("by wind, downwards", s.apart(3, 0), 5);
        edge.due("by wind, doubt 1", s.apart(3, 1), 3);
        BangSquare one = row(5);
        edge.due("one spot has no couple", one.apart(1, 0), 0);
    }

    private static void bestRoofs() {
        edge.says("Terms 4", "BEST ROOFS of k (2 .. 6): of all sets of k SPOTS that by which most couples of SPOTS (all that are told) are told apart; of several the least set.");
        edge.range("k of ten", k -> row(0, 1, 2, 3, 4, 5, 6, 7, 8, 9).roofs(k, 0) != NONE, 2, 6);
        edge.due("most", row(0, 10, 20, 40).roofs(2, 0), 9);
        edge.due("nothing told apart: the least", row(0, 10, 20, 40).roofs(2, 999), 3);
        edge.due("as many: the least of three", row(0, 10, 20, 40).roofs(3, 0), 11);
        for (int k = 2; k <= 6; k++) {
            edge.due("all alike, " + k, row(0, 0, 0, 0, 0, 0, 0, 0, 0, 0).roofs(k, 0), (1 << k) - 1);
        }
        BangSquare high = new BangSquare();
        for (int k = 4; k < 10; k++) {
            high.spot(k, 5 * k);
        }
        edge.due("six of six", high.roofs(6, 0), 1008);
        edge.due("spots that are not told are not taken", high.roofs(2, 999), 48);
        edge.due("the two outmost", high.roofs(2, 0), 528);
        edge.due("the last pair alone tells", row(0, 0, 0, 0, 0, 0, 0, 0, 0, 9).roofs(2, 0), 513);
    }

    // ---- promises ----

    private static void promise27() {
        edge.says("Promise 27", "The aim and QUICK of all TRIALS (aim NONE: no BALL, as at first): true; false if one can't be.");
        edge.allowed("aim", v -> new BangSquare().ball(v, 1), NONE, 0, 3599);
        edge.refused("aim", v -> new BangSquare().ball(v, 1), -2, 3600, Integer.MIN_VALUE, Integer.MAX_VALUE);
        edge.range("quick", v -> new BangSquare().ball(0, v), 1, 99);
        edge.allowed("quick not asked", v -> new BangSquare().ball(NONE, v), 0, -1, 100, Integer.MIN_VALUE, Integer.MAX_VALUE);
        BangSquare s = new BangSquare();
        s.hearer(0, 0);
        s.spot(0, 30);
        Check.text(s, 0, "turn bang when crack>0;");
        s.ball(40, 10);
        edge.due("a ball", s.trials(3), 1);
        edge.due("refused", s.ball(30, 0), false);
        edge.due("refused", s.ball(30, 100), false);
        edge.due("refused", s.ball(3600, 5), false);
        edge.due("refused", s.ball(-2, 5), false);
        edge.due("and it is as it was", s.trials(3), 1);
        s.ball(NONE, 5);
        edge.due("refused without a ball", s.ball(40, 0), false);
        edge.due("and there is none", s.trials(3), NONE);
    }

    private static void promise28() {
        edge.says("Promise 28", "TRIALS for a set of LAWS (1 .. 15); NONE if there are none such, or one can't be.");
        BangSquare s = fourLaws();
        s.spot(0, 10);
        s.spot(1, 20);
        s.spot(2, 30);
        edge.range("laws", v -> s.trials(v) != NONE, 1, 15);
        for (int laws = 1; laws <= 15; laws++) {
            edge.due("laws " + laws, s.trials(laws) != NONE, true);
        }
        edge.due("none such", new BangSquare().trials(15), NONE);
        edge.due("none such, of two", new BangSquare().trials(12), NONE);
        edge.due("of one the empty set", new BangSquare().trials(8), 0);
        BangSquare all = fourLaws();
        for (int k = 0; k < 9; k++) {
            all.spot(k, 59);
        }
        all.spot(9, 40);
        edge.due("the last spot", all.trials(12), 512);
        edge.due("law 3 is set apart from 0, 1, 2 alone", all.trials(11), NONE);
    }

    private static void promise29() {
        edge.says("Promise 29", "How many couples of SPOTS a set of SPOTS (0 .. 1023, all told) tells apart, for a doubt; NONE if one can't be.");
        BangSquare ten = row(0, 1, 3, 6, 10, 15, 21, 28, 36, 45);
        edge.range("set of ten", v -> ten.apart(v, 0) != NONE, 0, 1023);
        edge.range("doubt", v -> ten.apart(1023, v) != NONE, 0, 999);
        edge.due("all couples", ten.apart(1023, 0), 45);
        edge.due("the empty set", ten.apart(0, 0), 0);
        for (int k = 0; k < 10; k++) {
            BangSquare s = new BangSquare();
            for (int j = 0; j < 10; j++) {
                if (j != k) {
                    s.spot(j, j);
                }
            }
            edge.due("spot " + k + " is not told", s.apart(1 << k, 0), NONE);
            edge.due("with others", s.apart(1023, 0), NONE);
            edge.due("the others", s.apart(1023 & ~(1 << k), 0), 36);
        }
        edge.due("no spot: the empty set", new BangSquare().apart(0, 999), 0);
        edge.due("no spot", new BangSquare().apart(1, 0), NONE);
    }

    private static void promise30() {
        edge.says("Promise 30", "BEST ROOFS of k; NONE if there are not so many SPOTS, or one can't be.");
        for (int told = 0; told <= 10; told++) {
            BangSquare s = new BangSquare();
            for (int k = 0; k < told; k++) {
                s.spot(9 - k, 3 * k);
            }
            for (int k = -1; k <= 11; k++) {
                int best = s.roofs(k, 0);
                boolean can = k >= 2 && k <= 6 && k <= told;
                edge.due(k + " of " + told, best != NONE, can);
                edge.due("as many as asked", !can || Integer.bitCount(best) == k, true);
            }
        }
        BangSquare s = row(0, 10, 20);
        edge.range("doubt", v -> s.roofs(2, v) != NONE, 0, 999);
        edge.refused("k", v -> s.roofs(v, 0) != NONE, Integer.MIN_VALUE, Integer.MAX_VALUE);
    }
}
