/** Edges of part 4, A LAST END: promises 17 and 18. */
final class LastEndEdges {
    private static final int NONE = Edge.NONE;
    private static final int OUTSIDE = Edge.OUTSIDE;
    private static final int[][] AT_FIRST = {{0, 10, 20, 20, 10}, {0, 0, 40, 20, 0}, {20, 0, 10, 0, 30}};

    private LastEndEdges() {
    }

    static void run() {
        Edge.test(17, "ACT of a SIDE gets its WEIGHTS: 1.", LastEndEdges::eachActGetsItsWeights);
        Edge.test(17, "ACTS 0 to 2 of a SIDE:", LastEndEdges::actsAndSidesInBounds);
        Edge.test(17, "five WEIGHTS (0 .. 60, 60 together):", LastEndEdges::weightsFrom0To60);
        Edge.test(17, "OUTSIDE (also: they are not 60 together).", LastEndEdges::sixtyTogether);
        Edge.test(17, "At first ACT 0 has 0, 10, 20, 20, 10; ACT 1 0, 0, 40, 20, 0; ACT 2 20, 0, 10, 0, 30 (both SIDES).",
                LastEndEdges::actsAreAsAtFirst);
        Edge.test(18, "LEAD (-9 .. 9): what lies for SIDE 0;", LastEndEdges::leadInBounds);
        Edge.test(18, "n THROWS (0 .. 6) are left,", LastEndEdges::throwsInBounds);
        Edge.test(18, "thrown in turn, by a SIDE first.", LastEndEdges::sidesInTurn);
        Edge.test(18, "out of 60 so many bring LEAD -2, -1, 0, 1, 2 on for that SIDE (for SIDE 1: the other way round);",
                LastEndEdges::eachStepOfBothSides);
        Edge.test(18, "LEAD stays in its bounds.", LastEndEdges::leadStaysInItsBounds);
        Edge.test(18, "SIDE 0 WINS, if LEAD in the end is NEED (-9 .. 9) or more.", LastEndEdges::needOrMore);
        Edge.test(18, "WIN: the chance of that, if each SIDE takes that ACT which is best for it (SIDE 1: least), "
                + "of like ones the least.", LastEndEdges::leastOfLikeActs);
        Edge.test(18, "WIN: what = 0 the upper, 1 the lower number of it (in least terms),", LastEndEdges::inLeastTerms);
        Edge.test(18, "2 the best ACT of the SIDE that throws (NONE without THROWS).", LastEndEdges::noneWithoutThrows);
        Edge.test(18, "OUTSIDE.", LastEndEdges::winRefused);
    }

    private static void winIs(Calls x, int n, int side, int lead, int need, long... due) {
        for (int what = 0; what < due.length; what++) {
            Edge.due(x, x.win(n, side, lead, need, what), due[what]);
        }
    }

    private static long common(long a, long b) {
        return b == 0 ? a : common(b, a % b);
    }

    /** The other acts of the side are made as bad as can be: the chance of each need tells the weights of this one. */
    private static void weightsAre(Edge.Run scene, int side, int act, int[] weights) {
        Calls x = Edge.behind(scene);
        for (int other = 0; other < 3; other++) {
            if (other != act) {
                x.act(side, other, 60, 0, 0, 0, 0);
            }
        }
        int chance = 0;
        for (int step = 2; step >= -1; step--) {
            chance += weights[step + 2];
            // Of side 0 it is the chance of step or more; of side 1 that LEAD is not above -step.
            long upper = side == 0 ? chance : 60 - chance;
            long common = common(upper, 60);
            int need = side == 0 ? step : 1 - step;
            winIs(x, 1, side, 0, need, upper / common, 60 / common, upper == (side == 0 ? 0 : 60) ? 0 : act);
        }
    }

    // ---- promise 17

    private static void eachActGetsItsWeights() {
        int[][] some = {{12, 12, 12, 12, 12}, {1, 2, 3, 4, 50}, {50, 4, 3, 2, 1}, {0, 0, 0, 0, 60}, {0, 0, 60, 0, 0}, {60, 0, 0, 0, 0}};
        for (int side = 0; side < 2; side++) {
            for (int act = 0; act < 3; act++) {
                for (int[] w : some) {
                    int s = side;
                    int a = act;
                    Edge.due(Scenes.BARE, 1, x -> x.act(s, a, w[0], w[1], w[2], w[3], w[4]));
                    Edge.Run told = x -> x.act(s, a, w[0], w[1], w[2], w[3], w[4]);
                    // That act alone, and of that side alone.
                    for (int other = 0; other < 6; other++) {
                        boolean same = other == 3 * side + act;
                        weightsAre(told, other / 3, other % 3, same ? w : AT_FIRST[other % 3]);
                    }
                }
            }
        }
    }

    private static void actsAndSidesInBounds() {
        for (Edge.Run scene : new Edge.Run[] {Scenes.BARE, Scenes.SOME}) {
            Edge.bounds(scene, 0, 1, OUTSIDE, (x, n) -> x.act(n, 2, 60, 0, 0, 0, 0));
            Edge.bounds(scene, 0, 2, OUTSIDE, (x, n) -> x.act(1, n, 60, 0, 0, 0, 0));
            Edge.bounds(scene, 0, 2, OUTSIDE, (x, n) -> x.act(0, n, 0, 0, 60, 0, 0));
        }
        Edge.refused(Scenes.SOME, OUTSIDE, x -> x.act(2, 3, 61, 0, 0, 0, 0));
        Edge.refused(Scenes.SOME, OUTSIDE, x -> x.act(-1, 3, 60, 0, 0, 0, 0));
        Edge.refused(Scenes.SOME, OUTSIDE, x -> x.act(1, -3, 60, 0, 0, 0, 0));
    }

    private static int act(Calls x, int[] w) {
        return x.act(0, 1, w[0], w[1], w[2], w[3], w[4]);
    }

    private static void weightsFrom0To60() {
        for (int k = 0; k < 5; k++) {
            for (int j = 0; j < 5; j++) {
                if (j == k) {
                    continue;
                }
                // 60 together, whatever one of them is.
                int one = k;
                int rest = j;
                Edge.bounds(Scenes.BARE, 0, 60, OUTSIDE, (x, n) -> {
                    int[] w = new int[5];
                    w[one] = n;
                    w[rest] = 60 - n;
                    return act(x, w);
                });
            }
        }
        // Each out of its bounds by itself, the others in theirs.
        for (int k = 0; k < 5; k++) {
            int[] below = {15, 15, 15, 15, 15};
            below[k] = -1;
            below[(k + 1) % 5] = 16;
            Edge.refused(Scenes.SOME, OUTSIDE, x -> act(x, below));
            int[] above = new int[5];
            above[k] = 61;
            Edge.refused(Scenes.SOME, OUTSIDE, x -> act(x, above));
        }
    }

    private static void sixtyTogether() {
        int[][] wrong = {{0, 0, 0, 0, 0}, {59, 0, 0, 0, 0}, {0, 0, 0, 0, 59}, {60, 0, 0, 0, 1}, {1, 0, 0, 0, 60}, {12, 12, 12, 12, 11},
            {12, 12, 12, 12, 13}, {60, 60, 60, 60, 60}, {30, 31, 0, 0, 0}, {0, 0, 29, 30, 0}, {0, 1, 0, 60, 0}};
        for (int[] w : wrong) {
            Edge.refused(Scenes.SOME, OUTSIDE, x -> act(x, w));
        }
        // 60 together only as bits are lost.
        int min = Integer.MIN_VALUE;
        int max = Integer.MAX_VALUE;
        int[][] lost = {{min, min, 60, 0, 0}, {0, 60, 0, min, min}, {max, max, 62, 0, 0}, {max, max, 2, 60, 0},
            {1 << 30, 1 << 30, 1 << 30, 1 << 30, 60}, {min, max, 61, 0, 0}, {max, min, 0, 1, 60}, {60, 60, 60, 60, -180}};
        for (int[] w : lost) {
            Edge.refused(Scenes.SOME, OUTSIDE, x -> act(x, w));
        }
        for (int a = 0; a <= 60; a++) {
            int of = a;
            Edge.due(Scenes.BARE, 1, x -> x.act(1, 0, of, 0, 0, 60 - of, 0));
            Edge.due(Scenes.BARE, OUTSIDE, x -> x.act(1, 0, of, 0, 0, 59 - of, 0));
            Edge.due(Scenes.BARE, OUTSIDE, x -> x.act(1, 0, of, 0, 0, 61 - of, 0));
        }
    }

    static void actsAreAsAtFirst() {
        for (int side = 0; side < 2; side++) {
            for (int act = 0; act < 3; act++) {
                weightsAre(Scenes.BARE, side, act, AT_FIRST[act]);
            }
        }
    }

    // ---- promise 18

    private static void leadInBounds() {
        for (int n : new int[] {0, 1, 6}) {
            Edge.bounds(Scenes.SOME, -9, 9, OUTSIDE, (x, lead) -> x.win(n, 0, lead, 0, 0));
            Edge.bounds(Scenes.BARE, -9, 9, OUTSIDE, (x, lead) -> x.win(n, 1, lead, 0, 2));
        }
    }

    private static void throwsInBounds() {
        for (int what = 0; what < 3; what++) {
            int w = what;
            Edge.bounds(Scenes.SOME, 0, 6, OUTSIDE, (x, n) -> x.win(n, 0, 0, 0, w));
        }
        Calls x = new Calls();
        winIs(x, 6, 1, -2, 1, 3599, 15552, 0);
        winIs(x, 0, 1, -2, 1, 0, 1, NONE);
    }

    /** All acts of a side bring the lead so far on for it. */
    private static void always(Calls x, int side, int step) {
        int[] w = new int[5];
        w[step + 2] = 60;
        for (int act = 0; act < 3; act++) {
            x.act(side, act, w[0], w[1], w[2], w[3], w[4]);
        }
    }

    private static int clamp(int lead) {
        return Math.max(-9, Math.min(9, lead));
    }

    /** Where the lead comes to, if both sides always bring it on by their steps. */
    private static int lastLead(int n, int side, int lead, int[] steps) {
        int at = lead;
        for (int k = 0; k < n; k++) {
            int thrower = (side + k) % 2;
            at = clamp(thrower == 0 ? at + steps[0] : at - steps[1]);
        }
        return at;
    }

    private static void leadEndsAt(Calls x, int n, int side, int lead, int due) {
        winIs(x, n, side, lead, due, 1, 1, n == 0 ? NONE : 0);
        if (due < 9) {
            winIs(x, n, side, lead, due + 1, 0, 1, n == 0 ? NONE : 0);
        }
    }

    private static void sidesInTurn() {
        for (int n = 0; n <= 6; n++) {
            Calls x = new Calls();
            always(x, 0, 2);
            always(x, 1, 1);
            // The side that throws first has one throw more, if they are odd.
            leadEndsAt(x, n, 0, 0, 2 * ((n + 1) / 2) - n / 2);
            leadEndsAt(x, n, 1, 0, 2 * (n / 2) - (n + 1) / 2);
        }
    }

    private static void eachStepOfBothSides() {
        for (int step = -2; step <= 2; step++) {
            Calls x = new Calls();
            always(x, 0, step);
            always(x, 1, step);
            leadEndsAt(x, 1, 0, 0, step);
            leadEndsAt(x, 1, 1, 0, -step);
        }
        for (int side = 0; side < 2; side++) {
            for (int act = 0; act < 3; act++) {
                weightsAre(Scenes.BARE, side, act, AT_FIRST[act]);
            }
        }
    }

    private static void leadStaysInItsBounds() {
        for (int first = -2; first <= 2; first++) {
            for (int second = -2; second <= 2; second++) {
                int[] steps = {first, second};
                for (int n = 1; n <= 6; n++) {
                    Calls x = new Calls();
                    always(x, 0, first);
                    always(x, 1, second);
                    for (int lead : new int[] {-9, -8, -7, 0, 7, 8, 9}) {
                        leadEndsAt(x, n, 0, lead, lastLead(n, 0, lead, steps));
                        leadEndsAt(x, n, 1, lead, lastLead(n, 1, lead, steps));
                    }
                }
            }
        }
        // Some of it only: at 8 both 1 and 2 bring it to 9.
        Calls x = new Calls();
        for (int act = 0; act < 3; act++) {
            x.act(0, act, 10, 10, 10, 10, 20);
            x.act(1, act, 10, 10, 10, 10, 20);
        }
        winIs(x, 1, 0, 8, 9, 1, 2, 0);
        winIs(x, 1, 0, 9, 9, 2, 3, 0);
        winIs(x, 1, 0, 7, 9, 1, 3, 0);
        winIs(x, 1, 1, -8, -8, 1, 2, 0);
        winIs(x, 1, 1, -9, -8, 1, 3, 0);
    }

    private static void needOrMore() {
        Edge.bounds(Scenes.SOME, -9, 9, OUTSIDE, (x, need) -> x.win(0, 0, 0, need, 0));
        Edge.bounds(Scenes.SOME, -9, 9, OUTSIDE, (x, need) -> x.win(6, 1, 0, need, 2));
        for (int lead = -9; lead <= 9; lead++) {
            Calls x = new Calls();
            for (int need = -9; need <= 9; need++) {
                winIs(x, 0, lead & 1, lead, need, lead >= need ? 1 : 0, 1, NONE);
            }
        }
        // What is needed at least is there whatever is thrown; what is too far off never.
        for (int n = 1; n <= 6; n++) {
            Calls x = new Calls();
            for (int side = 0; side < 2; side++) {
                winIs(x, n, side, 0, -9, 1, 1, 0);
                winIs(x, n, side, 9, -9, 1, 1, 0);
                winIs(x, n, side, -9, 9, 0, 1, 0);
            }
        }
    }

    private static void leastOfLikeActs() {
        for (int side = 0; side < 2; side++) {
            // With side 1 that chance is best which is least: its own 0 is side 0's 1.
            long gone = side == 0 ? 0 : 1;
            int need = side == 0 ? 1 : 0;
            for (int good = 0; good < 8; good++) {
                Calls x = new Calls();
                for (int act = 0; act < 3; act++) {
                    boolean is = (good >> act & 1) != 0;
                    x.act(side, act, is ? 0 : 60, 0, 0, is ? 60 : 0, 0);
                }
                int best = good == 0 ? 0 : Integer.numberOfTrailingZeros(good);
                winIs(x, 1, side, 0, need, good == 0 ? gone : 1 - gone, 1, best);
            }
        }
        // Better by one of sixty, and the other side's last throw does not matter at the edge.
        for (int better = 0; better < 3; better++) {
            Calls x = new Calls();
            for (int act = 0; act < 3; act++) {
                int more = act == better ? 1 : 0;
                x.act(0, act, 0, 0, 30 - more, 30 + more, 0);
                x.act(1, act, 0, 0, 30 - more, 30 + more, 0);
            }
            winIs(x, 1, 0, 0, 1, 31, 60, better);
            winIs(x, 1, 1, 0, 0, 29, 60, better);
            winIs(x, 2, 0, 0, 0, 31 * 60 + 29 * 29, 3600, better);
            winIs(x, 2, 1, 0, 0, 29 * 60 + 31 * 31, 3600, better);
        }
    }

    private static void inLeastTerms() {
        for (int w = 0; w <= 60; w++) {
            Calls x = new Calls();
            for (int act = 0; act < 3; act++) {
                x.act(0, act, 60 - w, 0, 0, 0, w);
            }
            long common = common(w, 60);
            winIs(x, 1, 0, 0, 1, w / common, 60 / common);
        }
        // As large as can be: 60 to the 6th is above what an int holds.
        Calls x = new Calls();
        for (int act = 0; act < 3; act++) {
            x.act(0, act, 0, 0, 1, 0, 59);
            x.act(1, act, 0, 0, 1, 0, 59);
        }
        winIs(x, 6, 0, 0, 6, 205379, 46656000000L);
        winIs(x, 1, 0, 0, 2, 59, 60);
        for (int act = 0; act < 3; act++) {
            x.act(1, act, 0, 0, 60, 0, 0);
        }
        winIs(x, 6, 0, 0, 6, 205379, 216000);
        for (int act = 0; act < 3; act++) {
            x.act(1, act, 59, 0, 1, 0, 0);
        }
        // 59 to the 5th and to the 6th.
        winIs(x, 5, 0, -1, 9, 714924299L, 777600000L);
        winIs(x, 6, 0, -3, 9, 42180533641L, 46656000000L);
        winIs(x, 6, 1, -3, -2, 46655999999L, 46656000000L);
    }

    private static void noneWithoutThrows() {
        for (int side = 0; side < 2; side++) {
            for (int lead = -9; lead <= 9; lead += 3) {
                int s = side;
                int l = lead;
                Edge.due(Scenes.BARE, NONE, x -> x.win(0, s, l, 0, 2));
                Edge.due(Scenes.SOME, NONE, x -> x.win(0, s, l, 9, 2));
            }
        }
        // Behind a win with throws, too.
        Calls x = new Calls();
        Edge.due(x, x.win(2, 0, 0, 0, 2), 2);
        Edge.due(x, x.win(0, 0, 0, 0, 2), NONE);
        // Of the side that throws now, not of the other one.
        always(x, 1, -2);
        x.act(1, 1, 0, 0, 0, 0, 60);
        Edge.due(x, x.win(1, 0, -1, 1, 2), 2);
        Edge.due(x, x.win(1, 1, 1, 0, 2), 1);
    }

    private static void winRefused() {
        Edge.bounds(Scenes.SOME, 0, 1, OUTSIDE, (x, n) -> x.win(1, n, 0, 0, 0));
        Edge.bounds(Scenes.SOME, 0, 2, OUTSIDE, (x, n) -> x.win(1, 0, 0, 0, n));
        Edge.bounds(Scenes.SOME, 0, 2, OUTSIDE, (x, n) -> x.win(0, 0, 0, 0, n));
        Edge.bounds(Scenes.BARE, 0, 1, OUTSIDE, (x, n) -> x.win(0, n, 0, 0, 2));
        Edge.refused(Scenes.SOME, OUTSIDE, x -> x.win(7, 2, 10, -10, 3));
        Edge.refused(Scenes.SOME, OUTSIDE, x -> x.win(0, 0, 10, 0, 2));
        Edge.refused(Scenes.SOME, OUTSIDE, x -> x.win(0, 0, 0, -10, 2));
    }
}
