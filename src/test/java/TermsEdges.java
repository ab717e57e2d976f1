/** Edges of the document's terms, which hold for all promises: refusals, what they leave, and how long an object lives. */
final class TermsEdges {
    private TermsEdges() {
    }

    static void run() {
        Edge.test(1, "NONE is -1.", TermsEdges::constants);
        Edge.test(1, "An object is used for at most 512 calls after it has been made", TermsEdges::callNumber512);
        Edge.test(1, "What is refused changes nothing.", TermsEdges::manyRefusalsChangeNothing);
        Edge.test(1, "REFUSALS, of several the first in this order: UNKNOWN (an IRON, VILLAGE, MATCH, END that there is not), "
                + "OUTSIDE (another number out of its bounds), NOT (not now, as told), FULL, LARGE (as told).",
                TermsEdges::allNumbersAtTheEndsOfInt);
        Edge.test(1, "Nothing is promised beyond the answers and state changes described above", TermsEdges::askingChangesNothing);
    }

    private static void constants() {
        Due.due("NONE", QuoitBook.NONE, -1);
        Due.due("UNKNOWN", QuoitBook.UNKNOWN, -1001);
        Due.due("OUTSIDE", QuoitBook.OUTSIDE, -1002);
        Due.due("NOT", QuoitBook.NOT, -1003);
        Due.due("FULL", QuoitBook.FULL, -1004);
        Due.due("LARGE", QuoitBook.LARGE, -1005);
    }

    private static void callNumber512() {
        Calls x = Edge.behind(Scenes.SOME);
        while (x.made() < 504) {
            x.knock(x.made() % 4, x.made() % 600, 0);
            x.rule(x.made() % 2 + 4);
        }
        x.feedAll("near 7;");
        Edge.due(x, x.rule(5), 1);
        Edge.due(x, x.rake(), 7);
        Edge.due(x, x.iron(0, 100, 0, 30, 15, 0, true), 0);
        Edge.due(x, x.score(5, 0), 7);
        while (x.made() < 511) {
            x.fault();
        }
        Edge.due(x, x.told(0, 5), 70);
        Edge.due(x, x.made(), 512);
    }

    private static void manyRefusalsChangeNothing() {
        Edge.unchanged(Scenes.BRIMFUL, x -> {
            refuseAll(x, 12, 24);
            return 0;
        });
        Edge.unchanged(Scenes.SOME, x -> {
            refuseAll(x, 7, 6);
            return 0;
        });
        Edge.unchanged(Scenes.BARE, x -> {
            refuseAll(x, 0, 0);
            return 0;
        });
    }

    /** One refusal of each call that has one, in a book of so many irons and matches. */
    private static void refuseAll(Calls x, int irons, int matches) {
        long[] answers = {
            x.iron(0, 601, 0, 30, 15, 0, true), x.knock(irons, 0, 0), x.off(-1), x.told(irons, 0), x.nearer(0, irons, 0),
            x.count(10), x.feed(9, 0), x.rule(6), x.says(0, 8), x.score(6, 0), x.measure(irons, 0, 0, 0), x.known(-1, 0),
            x.sure(0, 3), x.act(0, 3, 60, 0, 0, 0, 0), x.win(7, 0, 0, 0, 0), x.match(2, 2, 0), x.end(matches, 0),
            x.mend(0, 40, 0), x.dusk(matches), x.about(0, 8), x.standing(6, 0), x.reach(0, 2)};
        for (long answer : answers) {
            Due.due(Edge.current() + ": a call is let in", Edge.isRefusal(answer) ? 1 : 0, 1);
        }
    }

    /** Every argument of every call at the ends of int: the first refusal that is told of, and no other answer. */
    private static void allNumbersAtTheEndsOfInt() {
        int unknown = QuoitBook.UNKNOWN;
        int outside = QuoitBook.OUTSIDE;
        for (Edge.Run scene : new Edge.Run[] {Scenes.BARE, Scenes.SOME, Scenes.SEVEN_OPEN}) {
            for (int n : new int[] {Integer.MIN_VALUE, Integer.MAX_VALUE, -1, Integer.MIN_VALUE + 1}) {
                Calls x = Edge.behind(scene);
                Edge.due(x, x.iron(n, n, n, n, n, n, true), outside);
                Edge.due(x, x.knock(n, n, n), unknown);
                Edge.due(x, x.off(n), unknown);
                Edge.due(x, x.told(n, n), unknown);
                Edge.due(x, x.nearer(n, n, n), unknown);
                Edge.due(x, x.count(n), outside);
                Edge.due(x, x.feed(n, Long.MIN_VALUE), outside);
                Edge.due(x, x.rule(n), unknown);
                Edge.due(x, x.says(n, n), unknown);
                Edge.due(x, x.score(n, n), unknown);
                Edge.due(x, x.measure(n, n, n, n), unknown);
                Edge.due(x, x.known(n, n), unknown);
                Edge.due(x, x.sure(n, n), unknown);
                Edge.due(x, x.act(n, n, n, n, n, n, n), outside);
                Edge.due(x, x.win(n, n, n, n, n), outside);
                Edge.due(x, x.match(n, n, n), unknown);
                Edge.due(x, x.end(n, n), unknown);
                Edge.due(x, x.mend(n, n, n), unknown);
                Edge.due(x, x.dusk(n), unknown);
                Edge.due(x, x.about(n, n), unknown);
                Edge.due(x, x.standing(n, n), unknown);
                Edge.due(x, x.reach(n, n), unknown);
            }
        }
    }

    private static void askingChangesNothing() {
        for (Edge.Run scene : new Edge.Run[] {Scenes.BARE, Scenes.SOME, Scenes.BRIMFUL, Scenes.SEVEN_OPEN}) {
            Edge.unchanged(scene, x -> {
                for (int what = 0; what < 3; what++) {
                    x.told(what, 7);
                    x.nearer(what, 2, 5);
                    x.count(what);
                    x.fault();
                    x.says(what, 0);
                    x.score(what, what);
                    x.known(what, 0);
                    x.sure(what, what);
                    x.win(4, 1, what, 0, what);
                    x.about(what, 7);
                    x.standing(what, 7);
                    x.reach(what, what % 2);
                }
                return 0;
            });
        }
    }
}
