/** Edges of the SCORE in part 2: promise 13. */
final class ScoreEdges {
    private static final int UNKNOWN = Edge.UNKNOWN;
    private static final int OUTSIDE = Edge.OUTSIDE;
    private static final int NOT = Edge.NOT;

    private ScoreEdges() {
    }

    static void run() {
        Edge.test(13, "SCORE of THE CLAY by a RULE: IRONS that COUNT: those not OFF;", ScoreEdges::thoseOffDoNotCount);
        Edge.test(13, "with down no, those alone whose hill is UP;", ScoreEdges::downNo);
        Edge.test(13, "with under no, those alone on which no IRON of the other SIDE lies ON.", ScoreEdges::underNo);
        Edge.test(13, "with under no, those alone on which no IRON of the other SIDE lies ON.", ScoreEdges::underNoAtTheBrink);
        Edge.test(13, "RINGERS that COUNT: with cancel none each gives its SIDE the points of ringer;", ScoreEdges::cancelNone);
        Edge.test(13, "with pairs as many of a SIDE as it has more than the other one do (those that came last);",
                ScoreEdges::cancelPairs);
        Edge.test(13, "with top that alone which came last does.", ScoreEdges::cancelTop);
        Edge.test(13, "RINGERS that COUNT", ScoreEdges::ringersThatDoNotCountCancelNothing);
        Edge.test(13, "Of the others that COUNT: an IRON is AHEAD, if for each one (no RINGER, that COUNTS) of the other SIDE",
                ScoreEdges::aheadOfEachThatCounts);
        Edge.test(13, "its own NEARNESS and measure, as whole numbers more, is less than the other one's NEARNESS "
                + "(with measure 0: is less);", ScoreEdges::aheadByMeasure);
        Edge.test(13, "is held exactly", ScoreEdges::aheadExactly);
        Edge.test(13, "the points of near for each that is AHEAD, of most at most", ScoreEdges::mostAtMost);
        Edge.test(13, "(if the other SIDE has none that COUNTS and is no RINGER, all are AHEAD).", ScoreEdges::allAhead);
        Edge.test(13, "SCORE: all points of SIDE 0 less those of SIDE 1.", ScoreEdges::leastAndGreatestScores);
        Edge.test(13, "SCORE of THE CLAY by the RULE of a VILLAGE: what = 0 SCORE, 1, 2 points of SIDE 0, 1, 3 IRONS that COUNT, "
                + "as a SET, 4 RINGERS that give points, 5 those AHEAD that give points", ScoreEdges::scoreOfBareClay);
        Edge.test(13, "SCORE of THE CLAY by the RULE of a VILLAGE:", ScoreEdges::whateverMenTold);
        Edge.test(13, "if for each one (no RINGER, that COUNTS) of the other SIDE", ScoreEdges::eachOfTwelveHolds);
        Edge.test(13, "4 RINGERS that give points, 5 those AHEAD that give points", ScoreEdges::withNoPoints);
        Edge.test(13, "(of likes of most: those that came first).", ScoreEdges::thoseThatCameFirst);
        Edge.test(13, "UNKNOWN, OUTSIDE.", ScoreEdges::scoreRefused);
    }

    static Calls by(String rule) {
        Calls x = new Calls();
        x.feedAll(rule);
        Edge.letIn(x, x.rule(0));
        return x;
    }

    private static void lay(Calls x, int side, int atX, int atY) {
        x.iron(side, atX, atY, 30, 15, 0, true);
    }

    /** SCORE, points of both sides, and the sets: those that count, ringers and those ahead that give points. */
    private static void scores(Calls x, int... due) {
        for (int what = 0; what < due.length; what++) {
            Edge.due(x, x.score(0, what), due[what]);
        }
    }

    private static void thoseOffDoNotCount() {
        Calls x = new Calls();
        for (int i = 0; i < 12; i++) {
            lay(x, i % 2, 100 + 40 * i, 0);
        }
        scores(x, 1, 1, 0, 4095, 0, 1);
        int left = 4095;
        for (int i = 0; i < 12; i++) {
            x.off(i);
            left &= ~(1 << i);
            Edge.due(x, x.score(0, 3), left);
            // The next one is the nearest then.
            Edge.due(x, x.score(0, 0), i == 11 ? 0 : i % 2 == 0 ? -1 : 1);
        }
        scores(x, 0, 0, 0, 0, 0, 0);
        Calls ringers = new Calls();
        lay(ringers, 0, 0, 0);
        ringers.off(0);
        scores(ringers, 0, 0, 0, 0, 0, 0);
    }

    private static void downNo() {
        for (boolean down : new boolean[] {true, false}) {
            Calls x = by(down ? "down yes;" : "down no;");
            x.iron(0, 100, 0, 30, 15, 0, true);
            x.iron(1, 90, 200, 30, 15, 0, false);
            x.iron(1, 0, 0, 30, 15, 0, false);
            x.iron(0, 0, 50, 30, 15, 0, false);
            if (down) {
                scores(x, 0, 2, 2, 15, 4, 9);
            } else {
                scores(x, 1, 1, 0, 1, 0, 1);
            }
        }
        Calls none = by("down no;");
        none.iron(0, 0, 0, 30, 15, 0, false);
        scores(none, 0, 0, 0, 0, 0, 0);
    }

    private static void underNo() {
        Calls x = by("under no;");
        lay(x, 0, 300, 0);
        lay(x, 0, 310, 0);
        scores(x, 2, 2, 0, 3, 0, 3);
        lay(x, 1, 330, 0);
        scores(x, -1, 0, 1, 4, 0, 4);
        // One of its own side on top of that changes nothing, one of the other takes it out.
        lay(x, 1, 335, 0);
        scores(x, -2, 0, 2, 12, 0, 12);
        lay(x, 0, 380, 0);
        scores(x, 1, 1, 0, 16, 0, 16);
        x.off(4);
        Edge.due(x, x.score(0, 3), 12);
        x.off(3);
        x.off(2);
        Edge.due(x, x.score(0, 3), 3);
        // By 'under yes' all the same.
        Calls yes = by("under yes;");
        lay(yes, 0, 300, 0);
        lay(yes, 1, 301, 0);
        Edge.due(yes, yes.score(0, 3), 3);
    }

    private static void underNoAtTheBrink() {
        Calls x = by("under no; down no;");
        lay(x, 0, 300, 0);
        x.iron(1, 360, 0, 30, 15, 0, false);
        Edge.due(x, x.score(0, 3), 1);
        // It lies on the other one, though it does not count itself.
        x.knock(1, 359, 0);
        Edge.due(x, x.score(0, 3), 0);
        x.knock(1, 300, -60);
        Edge.due(x, x.score(0, 3), 1);
        x.knock(1, 300, -59);
        Edge.due(x, x.score(0, 3), 0);
        // What came earlier never lies on it.
        x.iron(0, 300, -59, 30, 15, 0, true);
        Edge.due(x, x.score(0, 3), 4);
        // A ringer under one of the other side does not count.
        Calls ringer = by("under no;");
        lay(ringer, 0, 0, 0);
        lay(ringer, 1, 59, 0);
        scores(ringer, -1, 0, 1, 2, 0, 2);
        ringer.knock(1, 60, 0);
        scores(ringer, 1, 2, 1, 3, 1, 2);
    }

    /** Ringers of both sides in turn, as long as there are some; then the rest. Answers the sides. */
    private static int[] layRingers(Calls x, int first, int second) {
        int[] sides = new int[first + second];
        int[] left = {first, second};
        for (int i = 0; i < sides.length; i++) {
            int side = left[i % 2] > 0 ? i % 2 : 1 - i % 2;
            left[side]--;
            sides[i] = side;
            lay(x, side, i, 0);
        }
        return sides;
    }

    private static void eachCountOfRingers(String cancel) {
        for (int first = 0; first <= 12; first++) {
            for (int second = 0; first + second <= 12; second++) {
                Calls x = by("ringer 9; cancel " + cancel + ";");
                int[] sides = layRingers(x, first, second);
                int[] points = new int[2];
                int[] gone = {0, 0};
                int set = 0;
                for (int i = 0; i < sides.length; i++) {
                    int side = sides[i];
                    gone[side]++;
                    boolean gives = cancel.equals("none") || cancel.equals("top") && i == sides.length - 1
                            || cancel.equals("pairs") && gone[side] > Math.min(first, second);
                    points[side] += gives ? 9 : 0;
                    set |= gives ? 1 << i : 0;
                }
                scores(x, points[0] - points[1], points[0], points[1], (1 << sides.length) - 1, set, 0);
            }
        }
    }

    private static void cancelNone() {
        eachCountOfRingers("none");
    }

    private static void cancelPairs() {
        eachCountOfRingers("pairs");
        Calls x = by("ringer 5;");
        for (int side : new int[] {0, 0, 1, 0, 0, 1}) {
            lay(x, side, 0, 0);
        }
        scores(x, 10, 10, 0, 63, 24, 0);
        lay(x, 1, 0, 0);
        scores(x, 5, 5, 0, 127, 16, 0);
        lay(x, 1, 0, 0);
        scores(x, 0, 0, 0, 255, 0, 0);
        lay(x, 1, 0, 0);
        scores(x, -5, 0, 5, 511, 256, 0);
    }

    private static void cancelTop() {
        eachCountOfRingers("top");
        Calls x = by("cancel top;");
        lay(x, 0, 0, 0);
        lay(x, 1, 0, 0);
        lay(x, 0, 15, 0);
        // Iron 2 came last, but is no ringer.
        Edge.due(x, x.score(0, 4), 2);
        x.knock(2, 14, 0);
        Edge.due(x, x.score(0, 4), 4);
        x.off(2);
        Edge.due(x, x.score(0, 4), 2);
        x.off(1);
        Edge.due(x, x.score(0, 4), 1);
        x.off(0);
        Edge.due(x, x.score(0, 4), 0);
    }

    private static void ringersThatDoNotCountCancelNothing() {
        for (String cancel : new String[] {"pairs", "top"}) {
            Calls x = by("down no; cancel " + cancel + ";");
            x.iron(0, 0, 0, 30, 15, 0, true);
            x.iron(1, 0, 0, 30, 15, 0, false);
            x.iron(1, 0, 0, 30, 15, 0, false);
            scores(x, 2, 2, 0, 1, 1, 0);
        }
    }

    private static void aheadOfEachThatCounts() {
        Calls x = new Calls();
        lay(x, 0, 100, 0);
        lay(x, 1, 0, 110);
        lay(x, 1, 0, 90);
        scores(x, -1, 0, 1, 7, 0, 4);
        // Not behind one that is OFF, nor behind a ringer.
        x.off(2);
        scores(x, 1, 1, 0, 3, 0, 1);
        lay(x, 1, 14, 0);
        scores(x, -1, 1, 2, 11, 8, 1);
        x.knock(3, 15, 0);
        scores(x, -1, 0, 1, 11, 0, 8);
        // Nor behind one that does not count by its hill.
        Calls hill = by("down no;");
        lay(hill, 0, 100, 0);
        hill.iron(1, 90, 0, 30, 15, 0, false);
        lay(hill, 1, 0, 101);
        scores(hill, 1, 1, 0, 5, 0, 1);
        hill.knock(2, 0, 100);
        scores(hill, 0, 0, 0, 5, 0, 0);
    }

    private static void aheadByMeasure() {
        for (int measure = 0; measure <= 20; measure++) {
            Calls x = by("measure " + measure + ";");
            lay(x, 0, 100, 0);
            lay(x, 1, 0, 100 + measure);
            scores(x, 0, 0, 0, 3, 0, 0);
            x.knock(1, 0, 101 + measure);
            scores(x, 1, 1, 0, 3, 0, 1);
            x.knock(1, 0, 100 - measure);
            scores(x, 0, 0, 0, 3, 0, 0);
            x.knock(1, 0, 99 - measure);
            scores(x, -1, 0, 1, 3, 0, 2);
        }
        // All of the others have to be so far off.
        Calls x = by("measure 5;");
        lay(x, 0, 100, 0);
        lay(x, 0, 0, 95);
        lay(x, 1, 0, -101);
        lay(x, 1, 0, -106);
        scores(x, 1, 1, 0, 15, 0, 2);
        x.knock(2, 0, -100);
        scores(x, 0, 0, 0, 15, 0, 0);
        x.knock(2, 0, -106);
        scores(x, 2, 2, 0, 15, 0, 3);
        // Both within their sizes: as near, but for the lift.
        Calls near = new Calls();
        near.iron(0, 20, 0, 30, 15, 1, true);
        near.iron(1, 0, 30, 30, 15, 1, true);
        scores(near, 0, 0, 0, 3, 0, 0);
        near.iron(1, 0, 30, 30, 15, 0, true);
        scores(near, -1, 0, 1, 7, 0, 4);
    }

    private static void aheadExactly() {
        // The root of the second and measure is less than that of the first by next to nothing, or more.
        int[][] close = {{541, 502, 542, 474, 18, 1}, {495, 495, 553, 406, 14, 1}, {574, 145, 534, 216, 16, 1},
            {595, 186, 582, 163, 19, 0}, {577, 387, 598, 319, 17, 0}, {596, 453, 599, 427, 13, 0}};
        for (int[] c : close) {
            for (int side = 0; side < 2; side++) {
                Calls x = by("measure " + c[4] + ";");
                x.iron(1 - side, c[0], c[1], 60, 1, 3, true);
                x.iron(side, c[2], c[3], 60, 1, 3, true);
                Edge.due(x, x.score(0, 5), 2 * c[5]);
                Calls less = by("measure " + (c[4] - 1) + ";");
                less.iron(1 - side, c[0], c[1], 60, 1, 3, true);
                less.iron(side, c[2], c[3], 60, 1, 3, true);
                Edge.due(less, less.score(0, 5), 2);
            }
        }
        Calls x = new Calls();
        lay(x, 0, 600, 599);
        lay(x, 1, 600, 600);
        scores(x, 1, 1, 0, 3, 0, 1);
        x.knock(0, 600, 600);
        scores(x, 0, 0, 0, 3, 0, 0);
    }

    private static void mostAtMost() {
        for (int most = 1; most <= 12; most++) {
            for (int side = 0; side < 2; side++) {
                Calls x = by("near 3; most " + most + ";");
                for (int i = 0; i < 12; i++) {
                    lay(x, side, 300 - 10 * i, 0);
                    int paid = Math.min(most, i + 1);
                    Edge.due(x, x.score(0, 1 + side), 3 * paid);
                    Edge.due(x, x.score(0, 2 - side), 0);
                    Edge.due(x, x.score(0, 5), (1 << paid) - 1);
                }
            }
        }
    }

    private static void allAhead() {
        for (String measure : new String[] {"measure 0;", "measure 20;"}) {
            Calls x = by(measure);
            lay(x, 1, 600, 600);
            lay(x, 1, 16, 0);
            scores(x, -2, 0, 2, 3, 0, 3);
            lay(x, 0, 0, 0);
            scores(x, 0, 2, 2, 7, 4, 3);
            lay(x, 0, 599, 600);
            x.off(3);
            scores(x, 0, 2, 2, 15 - 8, 4, 3);
        }
    }

    private static void leastAndGreatestScores() {
        for (int side = 0; side < 2; side++) {
            int sign = side == 0 ? 1 : -1;
            Calls ringers = by("ringer 9; near 9;");
            Calls others = by("ringer 9; near 9;");
            Calls both = by("ringer 9; near 8; cancel none;");
            for (int i = 0; i < 12; i++) {
                lay(ringers, side, 0, 0);
                lay(others, side, 100, 0);
                lay(both, side, i < 6 ? 0 : 100, 0);
            }
            Edge.due(ringers, ringers.score(0, 0), sign * 108);
            Edge.due(others, others.score(0, 0), sign * 108);
            Edge.due(both, both.score(0, 0), sign * 102);
            Edge.due(both, both.score(0, 1 + side), 102);
            Edge.due(both, both.score(0, 2 - side), 0);
        }
        // Ringers of one side and those ahead of the other.
        Calls x = by("ringer 4; near 3;");
        lay(x, 0, 0, 0);
        lay(x, 1, 100, 0);
        lay(x, 1, 100, 0);
        scores(x, -2, 4, 6, 7, 1, 6);
    }

    private static void scoreOfBareClay() {
        for (int village = 0; village < 6; village++) {
            for (int what = 0; what < 6; what++) {
                int v = village;
                int w = what;
                Edge.due(Scenes.BARE, 0, x -> x.score(v, w));
            }
        }
        // Each village by its own rule: iron 0 alone is seen as ahead by the first one.
        Calls x = new Calls();
        x.feedAll("near 7;");
        x.rule(5);
        lay(x, 0, 100, 0);
        Edge.due(x, x.score(5, 0), 7);
        Edge.due(x, x.score(4, 0), 1);
    }

    /** Spans are for sure() alone: they say here that the farther one is nearer. */
    private static void whateverMenTold() {
        Calls x = new Calls();
        lay(x, 0, 100, 0);
        lay(x, 1, 0, 90);
        scores(x, -1, 0, 1, 3, 0, 2);
        x.measure(0, 0, 0, 10);
        x.measure(1, 0, 9000, 9999);
        Edge.due(x, x.sure(0, 0), 1);
        scores(x, -1, 0, 1, 3, 0, 2);
        // Nor does it matter to the score that one is disputed.
        x.measure(1, 1, 0, 1);
        Edge.due(x, x.sure(0, 0), NOT);
        scores(x, -1, 0, 1, 3, 0, 2);
    }

    private static void eachOfTwelveHolds() {
        for (int one = 0; one < 12; one++) {
            for (int side = 0; side < 2; side++) {
                Calls x = new Calls();
                for (int i = 0; i < 12; i++) {
                    lay(x, i == one ? side : 1 - side, 200, 0);
                }
                scores(x, 0, 0, 0, 4095, 0, 0);
                // It alone is nearer, then it alone is farther off.
                x.knock(one, 199, 0);
                Edge.due(x, x.score(0, 5), 1 << one);
                Edge.due(x, x.score(0, 0), side == 0 ? 1 : -1);
                x.knock(one, 201, 0);
                Edge.due(x, x.score(0, 5), 4095 & ~(1 << one));
                Edge.due(x, x.score(0, 0), side == 0 ? -11 : 11);
            }
        }
    }

    private static void withNoPoints() {
        Calls x = by("ringer 0; near 0;");
        lay(x, 0, 0, 0);
        lay(x, 0, 100, 0);
        scores(x, 0, 0, 0, 3, 1, 2);
    }

    private static void thoseThatCameFirst() {
        Calls x = by("most 2;");
        for (int atX : new int[] {500, 300, 100, 200}) {
            lay(x, 0, atX, 0);
        }
        lay(x, 1, 0, 400);
        // Irons 1, 2, 3 are ahead: 1 and 2 came first.
        scores(x, 2, 2, 0, 31, 0, 6);
        x.off(1);
        scores(x, 2, 2, 0, 29, 0, 12);
        x.off(2);
        scores(x, 1, 1, 0, 25, 0, 8);
    }

    private static void scoreRefused() {
        Edge.bounds(Scenes.SOME, 0, 5, UNKNOWN, (x, n) -> x.score(n, 0));
        Edge.bounds(Scenes.SOME, 0, 5, OUTSIDE, (x, n) -> x.score(0, n));
        Edge.bounds(Scenes.BARE, 0, 5, OUTSIDE, (x, n) -> x.score(5, n));
        Edge.bounds(Scenes.BRIMFUL, 0, 5, UNKNOWN, (x, n) -> x.score(n, 5));
        Edge.refused(Scenes.SOME, UNKNOWN, x -> x.score(6, 6));
        Edge.refused(Scenes.SOME, UNKNOWN, x -> x.score(-1, -1));
    }
}
