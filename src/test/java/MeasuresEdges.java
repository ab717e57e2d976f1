/** Edges of part 3, MEASURES: promises 14 to 16. */
final class MeasuresEdges {
    private static final int NONE = Edge.NONE;
    private static final int UNKNOWN = Edge.UNKNOWN;
    private static final int OUTSIDE = Edge.OUTSIDE;
    private static final int NOT = Edge.NOT;

    private MeasuresEdges() {
    }

    static void run() {
        Edge.test(14, "A man tells a span of an IRON (another one in its place): how many told one of it.", MeasuresEdges::oneToThreeTold);
        Edge.test(14, "three men (0 to 2) may tell of an IRON (no RINGER) a span of its NEARNESS,", MeasuresEdges::threeMen);
        Edge.test(14, "in tenths (low .. high, 0 .. 9999).", MeasuresEdges::spansFrom0To9999);
        Edge.test(14, "in tenths (low .. high, 0 .. 9999).", MeasuresEdges::lowIsHighAtMost);
        Edge.test(14, "UNKNOWN, OUTSIDE; NOT: it is a RINGER, or OFF.", MeasuresEdges::measureRefused);
        Edge.test(14, "it is a RINGER, or OFF.", MeasuresEdges::ringerOrOff);
        Edge.test(15, "KNOWN of an IRON: what = 0 low, 1 high.", MeasuresEdges::knownOfOneSpan);
        Edge.test(15, "KNOWN of it: what lies in the spans of all who told one;", MeasuresEdges::inTheSpansOfAll);
        Edge.test(15, "it is DISPUTED, if that is empty.", MeasuresEdges::disputedIfEmpty);
        Edge.test(15, "NONE: nobody told a span, or it is DISPUTED.", MeasuresEdges::noneKnown);
        Edge.test(15, "UNKNOWN, OUTSIDE.", MeasuresEdges::knownRefused);
        Edge.test(16, "THE LEAST (what = 0), THE GREATEST SCORE (1), whether it is SURE (2: 1, 0).", MeasuresEdges::leastAndGreatest);
        Edge.test(16, "THE LEAST and THE GREATEST SCORE by a RULE: over all NEARNESSES of IRONS with a KNOWN in it "
                + "(each any number in it, for itself;", MeasuresEdges::eachForItself);
        Edge.test(16, "each any number in it", MeasuresEdges::spansThatTouch);
        Edge.test(16, "each any number in it", MeasuresEdges::spansAndMeasure);
        Edge.test(16, "RINGERS, ON, and those without a span as on THE CLAY).", MeasuresEdges::theOthersAsOnTheClay);
        Edge.test(16, "those without a span as on THE CLAY", MeasuresEdges::spansAgainstRoots);
        Edge.test(16, "SURE, if both are the same;", MeasuresEdges::sureIfBothAreTheSame);
        Edge.test(16, "none of these with a DISPUTED one that COUNTS.", MeasuresEdges::notWithADisputedOne);
        Edge.test(16, "UNKNOWN, OUTSIDE; NOT: a DISPUTED one COUNTS.", MeasuresEdges::sureRefused);
    }

    private static void lay(Calls x, int side, int atX, int atY) {
        x.iron(side, atX, atY, 30, 15, 0, true);
    }

    private static void knownIs(Calls x, int i, int low, int high) {
        Edge.due(x, x.known(i, 0), low);
        Edge.due(x, x.known(i, 1), high);
    }

    private static void sureIs(Calls x, int village, int least, int greatest) {
        Edge.due(x, x.sure(village, 0), least);
        Edge.due(x, x.sure(village, 1), greatest);
        Edge.due(x, x.sure(village, 2), least == greatest ? 1 : 0);
    }

    // ---- promise 14

    private static void oneToThreeTold() {
        Calls x = new Calls();
        lay(x, 0, 100, 0);
        lay(x, 0, 100, 0);
        Edge.due(x, x.measure(0, 2, 0, 0), 1);
        Edge.due(x, x.measure(0, 2, 1, 1), 1);
        Edge.due(x, x.measure(0, 0, 9999, 9999), 2);
        Edge.due(x, x.measure(0, 1, 5, 6), 3);
        Edge.due(x, x.measure(0, 0, 5, 7), 3);
        Edge.due(x, x.measure(1, 1, 5, 6), 1);
        // Another one in its place: what was told ahead of it is gone.
        Edge.due(x, x.measure(0, 2, 0, 9999), 3);
        knownIs(x, 0, 5, 6);
        x.knock(0, 100, 0);
        Edge.due(x, x.measure(0, 1, 5, 6), 1);
        // One iron's number again, behind a rake.
        x.rake();
        lay(x, 0, 100, 0);
        Edge.due(x, x.measure(0, 0, 5, 6), 1);
    }

    private static void threeMen() {
        Edge.bounds(Scenes.SOME, 0, 2, OUTSIDE, (x, n) -> x.measure(0, n, 0, 9999));
        Edge.bounds(Scenes.BRIMFUL, 0, 2, OUTSIDE, (x, n) -> x.measure(10, n, 5, 5));
    }

    private static void spansFrom0To9999() {
        for (int i : new int[] {0, 3, 5}) {
            Edge.bounds(Scenes.SOME, 0, 9999, OUTSIDE, (x, n) -> x.measure(i, 1, n, n));
            Edge.bounds(Scenes.SOME, 0, 9999, OUTSIDE, (x, n) -> x.measure(i, 1, n, 9999));
            Edge.bounds(Scenes.SOME, 0, 9999, OUTSIDE, (x, n) -> x.measure(i, 1, 0, n));
        }
        Calls x = new Calls();
        lay(x, 0, 100, 0);
        x.measure(0, 0, 0, 9999);
        knownIs(x, 0, 0, 9999);
        x.measure(0, 0, 0, 0);
        knownIs(x, 0, 0, 0);
        x.measure(0, 0, 9999, 9999);
        knownIs(x, 0, 9999, 9999);
    }

    private static void lowIsHighAtMost() {
        for (int n : new int[] {1, 500, 9998, 9999}) {
            Edge.due(Scenes.SOME, 1, x -> x.measure(3, 0, n, n));
            Edge.due(Scenes.SOME, 1, x -> x.measure(3, 0, n - 1, n));
            Edge.refused(Scenes.SOME, OUTSIDE, x -> x.measure(3, 0, n, n - 1));
        }
        Edge.refused(Scenes.SOME, OUTSIDE, x -> x.measure(0, 0, 9999, 0));
        Edge.refused(Scenes.SOME, OUTSIDE, x -> x.measure(0, 0, 10000, 9999));
        Edge.refused(Scenes.SOME, OUTSIDE, x -> x.measure(0, 0, 0, -1));
        Edge.refused(Scenes.SOME, OUTSIDE, x -> x.measure(0, 0, Integer.MAX_VALUE, Integer.MIN_VALUE));
    }

    private static void measureRefused() {
        Edge.refused(Scenes.BARE, UNKNOWN, x -> x.measure(0, 0, 0, 0));
        Edge.outOf(Scenes.SOME, 0, 6, UNKNOWN, (x, n) -> x.measure(n, 0, 0, 0));
        Edge.outOf(Scenes.BRIMFUL, 0, 11, UNKNOWN, (x, n) -> x.measure(n, 0, 0, 0));
        Edge.refused(Scenes.SOME, UNKNOWN, x -> x.measure(7, 3, 0, 0));
        Edge.refused(Scenes.SOME, UNKNOWN, x -> x.measure(-1, 0, 5, 4));
        Edge.refused(Scenes.SOME, UNKNOWN, x -> x.measure(7, -1, -1, 10000));
        // Irons 1 (a ringer), 4 (off) and 6 (both): a number outside comes first.
        for (int i : new int[] {1, 4, 6}) {
            Edge.refused(Scenes.SOME, OUTSIDE, x -> x.measure(i, 3, 0, 0));
            Edge.refused(Scenes.SOME, OUTSIDE, x -> x.measure(i, -1, 0, 0));
            Edge.refused(Scenes.SOME, OUTSIDE, x -> x.measure(i, 0, -1, 0));
            Edge.refused(Scenes.SOME, OUTSIDE, x -> x.measure(i, 0, 0, 10000));
            Edge.refused(Scenes.SOME, OUTSIDE, x -> x.measure(i, 0, 2, 1));
            for (int man = 0; man < 3; man++) {
                int who = man;
                Edge.refused(Scenes.SOME, NOT, x -> x.measure(i, who, 0, 9999));
            }
        }
    }

    private static void ringerOrOff() {
        Calls x = new Calls();
        lay(x, 0, 14, 0);
        Edge.due(x, x.measure(0, 0, 0, 1), NOT);
        x.knock(0, 15, 0);
        Edge.due(x, x.measure(0, 0, 0, 1), 1);
        x.knock(0, 14, 0);
        Edge.due(x, x.measure(0, 0, 0, 1), NOT);
        knownIs(x, 0, NONE, NONE);
        x.knock(0, 15, 0);
        x.off(0);
        Edge.due(x, x.measure(0, 0, 0, 1), NOT);
    }

    // ---- promise 15

    private static void knownOfOneSpan() {
        for (int man = 0; man < 3; man++) {
            Calls x = new Calls();
            lay(x, 0, 100, 0);
            x.measure(0, man, 0, 0);
            knownIs(x, 0, 0, 0);
            x.measure(0, man, 3, 9998);
            knownIs(x, 0, 3, 9998);
            // Off, it is known as before.
            x.off(0);
            knownIs(x, 0, 3, 9998);
        }
    }

    private static void inTheSpansOfAll() {
        int[][] orders = {{0, 1, 2}, {0, 2, 1}, {1, 0, 2}, {1, 2, 0}, {2, 0, 1}, {2, 1, 0}};
        for (int[] o : orders) {
            Calls x = new Calls();
            lay(x, 0, 100, 0);
            x.measure(0, o[0], 100, 300);
            x.measure(0, o[1], 200, 400);
            knownIs(x, 0, 200, 300);
            x.measure(0, o[2], 250, 260);
            knownIs(x, 0, 250, 260);
            x.measure(0, o[2], 0, 9999);
            knownIs(x, 0, 200, 300);
            x.measure(0, o[2], 300, 9999);
            knownIs(x, 0, 300, 300);
            x.measure(0, o[2], 0, 200);
            knownIs(x, 0, 200, 200);
        }
    }

    private static void disputedIfEmpty() {
        int[][] orders = {{0, 1, 2}, {1, 2, 0}, {2, 0, 1}};
        for (int[] o : orders) {
            Calls x = new Calls();
            lay(x, 0, 100, 0);
            x.measure(0, o[0], 100, 200);
            x.measure(0, o[1], 200, 300);
            Edge.due(x, x.count(9), 0);
            knownIs(x, 0, 200, 200);
            x.measure(0, o[1], 201, 300);
            Edge.due(x, x.count(9), 1);
            knownIs(x, 0, NONE, NONE);
            x.measure(0, o[1], 0, 99);
            Edge.due(x, x.count(9), 1);
            x.measure(0, o[1], 0, 100);
            Edge.due(x, x.count(9), 0);
            // Each two of the three meet, or not all of them do.
            x.measure(0, o[1], 150, 300);
            x.measure(0, o[2], 201, 250);
            Edge.due(x, x.count(9), 1);
            x.measure(0, o[2], 0, 149);
            Edge.due(x, x.count(9), 1);
            x.measure(0, o[2], 0, 150);
            Edge.due(x, x.count(9), 0);
            knownIs(x, 0, 150, 150);
        }
        // From one end of the tenths to the other.
        Calls x = new Calls();
        lay(x, 0, 100, 0);
        x.measure(0, 0, 0, 0);
        x.measure(0, 1, 9999, 9999);
        knownIs(x, 0, NONE, NONE);
    }

    private static void noneKnown() {
        Calls x = new Calls();
        lay(x, 0, 100, 0);
        lay(x, 0, 0, 0);
        knownIs(x, 0, NONE, NONE);
        knownIs(x, 1, NONE, NONE);
        x.measure(0, 0, 0, 0);
        knownIs(x, 0, 0, 0);
        x.measure(0, 1, 1, 1);
        knownIs(x, 0, NONE, NONE);
        x.measure(0, 0, 1, 1);
        knownIs(x, 0, 1, 1);
        x.off(1);
        knownIs(x, 1, NONE, NONE);
    }

    private static void knownRefused() {
        Edge.refused(Scenes.BARE, UNKNOWN, x -> x.known(0, 0));
        Edge.bounds(Scenes.SOME, 0, 6, UNKNOWN, (x, n) -> x.known(n, 0));
        Edge.bounds(Scenes.BRIMFUL, 0, 11, UNKNOWN, (x, n) -> x.known(n, 1));
        for (int i : new int[] {0, 1, 3, 4, 5}) {
            Edge.bounds(Scenes.SOME, 0, 1, OUTSIDE, (x, n) -> x.known(i, n));
        }
        Edge.refused(Scenes.SOME, UNKNOWN, x -> x.known(7, 2));
        Edge.refused(Scenes.SOME, UNKNOWN, x -> x.known(-1, -1));
    }

    // ---- promise 16

    private static void leastAndGreatest() {
        // Without a span, and on bare clay, both are the score.
        sureIs(new Calls(), 0, 0, 0);
        Calls x = new Calls();
        lay(x, 0, 100, 0);
        lay(x, 1, 0, 101);
        sureIs(x, 0, 1, 1);
        lay(x, 1, 0, 99);
        sureIs(x, 0, -1, -1);
        x.measure(2, 0, 0, 9999);
        sureIs(x, 0, -1, 1);
        Edge.due(x, x.score(0, 0), -1);
    }

    private static void eachForItself() {
        Calls x = ScoreEdges.by("near 9;");
        for (int i = 0; i < 12; i++) {
            lay(x, i % 2, 300, i);
            x.measure(i, i % 3, 0, 9999);
        }
        sureIs(x, 0, -54, 54);
        // One of each side that is nearer than all others for sure.
        x.measure(0, 0, 0, 0);
        x.measure(1, 1, 0, 0);
        sureIs(x, 0, 0, 0);
        x.measure(1, 1, 0, 1);
        sureIs(x, 0, 0, 54);
        x.measure(1, 1, 1, 1);
        sureIs(x, 0, 0, 54);
        for (int i = 3; i < 12; i += 2) {
            x.measure(i, i % 3, 1, 9999);
        }
        sureIs(x, 0, 9, 54);
        Calls most = ScoreEdges.by("most 1; near 2;");
        for (int i = 0; i < 6; i++) {
            lay(most, i % 2, 300, i);
            most.measure(i, 0, 10, 20);
        }
        sureIs(most, 0, -2, 2);
    }

    private static void spansThatTouch() {
        Calls x = new Calls();
        lay(x, 0, 100, 0);
        lay(x, 1, 100, 0);
        // Low and high of side 0, of side 1, the least and the greatest.
        int[][] spans = {{0, 0, 0, 0, 0, 0}, {9999, 9999, 9999, 9999, 0, 0}, {0, 0, 9999, 9999, 1, 1},
            {9999, 9999, 0, 0, -1, -1}, {5, 6, 6, 7, 0, 1}, {5, 6, 7, 8, 1, 1}, {6, 7, 5, 6, -1, 0}, {7, 8, 5, 6, -1, -1},
            {5, 6, 5, 6, -1, 1}, {5, 5, 5, 6, 0, 1}, {6, 6, 5, 6, -1, 0}, {5, 7, 6, 6, -1, 1}, {0, 9999, 0, 0, -1, 0},
            {0, 9999, 9999, 9999, 0, 1}};
        for (int[] s : spans) {
            x.measure(0, 0, s[0], s[1]);
            x.measure(1, 2, s[2], s[3]);
            sureIs(x, 0, s[4], s[5]);
        }
    }

    private static void spansAndMeasure() {
        for (int measure : new int[] {1, 7, 20}) {
            Calls x = ScoreEdges.by("measure " + measure + ";");
            lay(x, 0, 100, 0);
            lay(x, 1, 100, 0);
            int[] froms = {0, 500, 9998 - 10 * measure};
            for (int from : froms) {
                x.measure(0, 0, from, from);
                x.measure(1, 0, from + 10 * measure, from + 10 * measure);
                sureIs(x, 0, 0, 0);
                x.measure(1, 0, from + 10 * measure + 1, from + 10 * measure + 1);
                sureIs(x, 0, 1, 1);
                x.measure(1, 0, from + 10 * measure, from + 10 * measure + 1);
                sureIs(x, 0, 0, 1);
            }
        }
    }

    private static void theOthersAsOnTheClay() {
        Calls x = ScoreEdges.by("under no;");
        lay(x, 0, 0, 0);
        lay(x, 0, 300, 0);
        lay(x, 1, 0, 310);
        sureIs(x, 0, 3, 3);
        x.measure(2, 0, 0, 9999);
        sureIs(x, 0, 1, 3);
        // On by its place, whatever is told of its nearness.
        x.knock(2, 310, 0);
        x.measure(2, 0, 9999, 9999);
        sureIs(x, 0, 1, 1);
        x.knock(2, 360, 0);
        x.measure(2, 0, 9999, 9999);
        sureIs(x, 0, 3, 3);
        // One without a span: 270 from the pin.
        x.measure(2, 0, 2700, 2700);
        sureIs(x, 0, 2, 2);
        x.measure(2, 0, 2699, 2700);
        sureIs(x, 0, 1, 2);
        x.measure(2, 0, 2700, 2701);
        sureIs(x, 0, 2, 3);
    }

    /** Ten times the distance is a whole number, but for next to nothing. */
    private static void spansAgainstRoots() {
        // Place, the whole number, and whether the distance is above it.
        int[][] close = {{585, 533, 7914, 1}, {563, 520, 7664, 1}, {558, 552, 7849, 0}, {573, 507, 7651, 0}};
        for (int[] c : close) {
            Calls x = new Calls();
            x.iron(0, c[0], c[1], 2, 1, 0, true);
            lay(x, 1, 300, 0);
            int tenths = c[2] - 20;
            x.measure(1, 0, tenths, tenths);
            sureIs(x, 0, c[3] == 1 ? -1 : 1, c[3] == 1 ? -1 : 1);
            x.measure(1, 0, tenths + 1, tenths + 1);
            sureIs(x, 0, 1, 1);
            x.measure(1, 0, tenths - 1, tenths - 1);
            sureIs(x, 0, -1, -1);
            x.measure(1, 0, tenths - 1, tenths + 1);
            sureIs(x, 0, -1, 1);
        }
        // With its lift, and within its size.
        Calls x = new Calls();
        x.iron(0, 20, 0, 30, 15, 9, true);
        lay(x, 1, 300, 0);
        x.measure(1, 0, 90, 90);
        sureIs(x, 0, 0, 0);
        x.measure(1, 0, 91, 91);
        sureIs(x, 0, 1, 1);
        x.measure(1, 0, 89, 89);
        sureIs(x, 0, -1, -1);
    }

    private static void sureIfBothAreTheSame() {
        Calls x = new Calls();
        lay(x, 0, 100, 0);
        x.measure(0, 0, 0, 9999);
        // None against it: a span of any width leaves it sure.
        sureIs(x, 0, 1, 1);
        lay(x, 1, 0, 0);
        sureIs(x, 0, -1, -1);
        lay(x, 1, 0, 100);
        sureIs(x, 0, -3, -1);
        x.off(2);
        sureIs(x, 0, -1, -1);
        // With no points for those ahead it is sure too.
        Calls none = ScoreEdges.by("near 0;");
        lay(none, 0, 100, 0);
        lay(none, 1, 100, 0);
        none.measure(0, 0, 0, 9999);
        none.measure(1, 0, 0, 9999);
        sureIs(none, 0, 0, 0);
    }

    private static void notWithADisputedOne() {
        Edge.Run disputed = x -> {
            x.feedAll("down no;");
            x.rule(1);
            x.feedAll("under no;");
            x.rule(2);
            x.iron(0, 100, 0, 30, 15, 0, false);
            x.measure(0, 0, 1, 1);
            x.measure(0, 2, 2, 2);
        };
        for (int what = 0; what < 3; what++) {
            int w = what;
            Edge.refused(disputed, NOT, x -> x.sure(0, w));
            Edge.refused(disputed, NOT, x -> x.sure(2, w));
        }
        Calls x = Edge.behind(disputed);
        // It does not count: its hill, one on it, or off.
        sureIs(x, 1, 0, 0);
        lay(x, 1, 159, 0);
        Edge.due(x, x.sure(0, 0), NOT);
        sureIs(x, 2, -1, -1);
        x.knock(1, 160, 0);
        Edge.due(x, x.sure(2, 2), NOT);
        x.measure(0, 0, 2, 2);
        sureIs(x, 0, 1, 1);
        x.measure(0, 0, 1, 1);
        Edge.due(x, x.sure(0, 1), NOT);
        x.off(0);
        sureIs(x, 0, -1, -1);
    }

    private static void sureRefused() {
        Edge.bounds(Scenes.BARE, 0, 5, UNKNOWN, (x, n) -> x.sure(n, 0));
        Edge.bounds(Scenes.BARE, 0, 2, OUTSIDE, (x, n) -> x.sure(0, n));
        // Iron 5 is disputed and counts but by the rule of village 1.
        Edge.outOf(Scenes.SOME, 0, 5, UNKNOWN, (x, n) -> x.sure(n, 0));
        Edge.bounds(Scenes.SOME, 0, 2, OUTSIDE, (x, n) -> x.sure(1, n));
        Edge.outOf(Scenes.SOME, 0, 2, OUTSIDE, (x, n) -> x.sure(0, n));
        Edge.refused(Scenes.SOME, UNKNOWN, x -> x.sure(6, 3));
        Edge.refused(Scenes.SOME, UNKNOWN, x -> x.sure(-1, -1));
        for (int what = 0; what < 3; what++) {
            int w = what;
            Edge.refused(Scenes.SOME, NOT, x -> x.sure(0, w));
        }
    }
}
