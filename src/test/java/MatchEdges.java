/** Edges of part 5, MATCHES, one by one: promises 19 to 23. */
final class MatchEdges {
    private static final int UNKNOWN = Edge.UNKNOWN;
    private static final int OUTSIDE = Edge.OUTSIDE;
    private static final int NOT = Edge.NOT;
    private static final int FULL = Edge.FULL;

    private static final int OPEN = 0;
    private static final int HOME = 1;
    private static final int AWAY = 2;
    private static final int DRAWN = 3;

    private MatchEdges() {
    }

    static void run() {
        Edge.test(19, "A MATCH: its number.", MatchEdges::matchesHaveNumbersFrom0On);
        Edge.test(19, "What has a number has it from 0 on, as it comes.", MatchEdges::matchesHaveNumbersFrom0On);
        Edge.test(19, "MATCHES (24 at most) of a home and an away VILLAGE,", MatchEdges::twentyFourAtMost);
        Edge.test(19, "by MODE 0 home's RULE, 1 away's, 2 both: ENDS 0, 2, .. by home's, the others by away's.", MatchEdges::endsByMode);
        Edge.test(19, "UNKNOWN, OUTSIDE (MODE; one VILLAGE twice), FULL.", MatchEdges::matchRefused);
        Edge.test(20, "An END of a MATCH: its number.", MatchEdges::endsHaveNumbersFrom0On);
        Edge.test(20, "What has a number has it from 0 on, as it comes.", MatchEdges::endsHaveNumbersFrom0On);
        Edge.test(20, "ENDS (40 at most of a MATCH)", MatchEdges::fortyEndsAtMost);
        Edge.test(20, "have a SCORE each (home's less away's, -99 .. 99).", MatchEdges::scoresTo99);
        Edge.test(20, "Points of a VILLAGE in it: the sum of what is for it.", MatchEdges::pointsAreSums);
        Edge.test(20, "A MATCH is WON at the first END behind which one has as many as game of the RULE of that END",
                MatchEdges::wonAtTheGame);
        Edge.test(20, "(by RULES as they are now),", MatchEdges::byRulesAsTheyAreNow);
        Edge.test(20, "and more than the other one: by who has more;", MatchEdges::moreThanTheOtherOne);
        Edge.test(20, "ENDS told behind it do not count.", MatchEdges::endsBehindDoNotCount);
        Edge.test(20, "UNKNOWN, OUTSIDE; NOT: it is not OPEN; FULL.", MatchEdges::endRefused);
        Edge.test(21, "The SCORE of an END becomes another one: what it was.", MatchEdges::mendTellsWhatItWas);
        Edge.test(21, "The SCORE of an END becomes another one", MatchEdges::mendOpensAndCloses);
        Edge.test(21, "UNKNOWN, OUTSIDE.", MatchEdges::mendRefused);
        Edge.test(22, "A MATCH is closed at DUSK: 1.", MatchEdges::closedAtDusk);
        Edge.test(22, "It may be closed at DUSK: then who has more points has WON it, else it is DRAWN", MatchEdges::closedAtDusk);
        Edge.test(22, "(as long as it is not WON by ENDS).", MatchEdges::closedAndWonByEnds);
        Edge.test(22, "Else it is OPEN.", MatchEdges::elseItIsOpen);
        Edge.test(22, "UNKNOWN; NOT: it is not OPEN.", MatchEdges::duskRefused);
        Edge.test(23, "Of a MATCH: what = 0 home, 1 away, 2 MODE, 3 ENDS told, 4 that count, 5, 6 points of home, away, "
                + "7 0 OPEN, 1 home has WON, 2 away, 3 DRAWN.", MatchEdges::aboutEach);
        Edge.test(23, "UNKNOWN, OUTSIDE.", MatchEdges::aboutRefused);
    }

    /** Ends told, those that count, points of home and away, and how it stands. */
    static void aboutIs(Calls x, int m, int... due) {
        for (int k = 0; k < due.length; k++) {
            Edge.due(x, x.about(m, 3 + k), due[k]);
        }
    }

    private static void game(Calls x, int village, int game) {
        x.feedAll("game " + game + ";");
        Edge.due(x, x.rule(village), 1);
    }

    // ---- promise 19

    private static void matchesHaveNumbersFrom0On() {
        Calls x = new Calls();
        for (int m = 0; m < 24; m++) {
            Edge.due(x, x.match(0, 1, 3), OUTSIDE);
            Edge.due(x, x.match(m % 6, (m + 1) % 6, m % 3), m);
            // Closed or won, it keeps its number.
            x.dusk(m);
        }
    }

    private static void twentyFourAtMost() {
        Calls x = new Calls();
        for (int m = 0; m < 23; m++) {
            x.match(0, 1, 0);
        }
        Edge.due(x, x.match(0, 1, 0), 23);
        Edge.due(x, x.match(0, 1, 0), FULL);
        for (int m = 0; m < 24; m++) {
            x.dusk(m);
        }
        Edge.due(x, x.match(0, 1, 0), FULL);
        x.rake();
        Edge.due(x, x.match(0, 1, 0), FULL);
        Edge.due(x, x.count(4), 24);
        for (int mode = 0; mode < 3; mode++) {
            int of = mode;
            Edge.refused(Scenes.BRIMFUL, FULL, y -> y.match(5, 0, of));
        }
    }

    private static void endsByMode() {
        // Home needs 10, away 5: told 5, 0, 0, 5 the match is won by ..
        int[] wonAt = {3, 0, 1};
        for (int mode = 0; mode < 3; mode++) {
            for (int sign = -1; sign <= 1; sign += 2) {
                Calls x = new Calls();
                game(x, 0, 10);
                game(x, 1, 5);
                x.match(0, 1, mode);
                int[] scores = {5, 0, 0, 5};
                for (int e = 0; e < 4; e++) {
                    Edge.due(x, x.end(0, sign * scores[e]), e <= wonAt[mode] ? e : NOT);
                    Edge.due(x, x.about(0, 7), e < wonAt[mode] ? OPEN : sign == 1 ? HOME : AWAY);
                }
                Edge.due(x, x.about(0, 4), wonAt[mode] + 1);
            }
        }
        // The other way round: home needs less, and the last ends are by both rules in turn.
        Calls x = new Calls();
        game(x, 2, 5);
        game(x, 3, 10);
        x.match(2, 3, 2);
        x.end(0, 0);
        x.end(0, 9);
        Edge.due(x, x.about(0, 7), OPEN);
        x.end(0, 0);
        Edge.due(x, x.about(0, 7), HOME);
        Calls last = new Calls();
        game(last, 1, 1);
        last.match(0, 1, 2);
        for (int e = 0; e < 38; e++) {
            last.end(0, 0);
        }
        last.end(0, 20);
        Edge.due(last, last.about(0, 7), OPEN);
        Edge.due(last, last.end(0, 0), 39);
        aboutIs(last, 0, 40, 40, 20, 0, HOME);
    }

    private static void matchRefused() {
        for (Edge.Run scene : new Edge.Run[] {Scenes.BARE, Scenes.SOME}) {
            Edge.outOf(scene, 0, 5, UNKNOWN, (x, n) -> x.match(n, 3, 0));
            Edge.outOf(scene, 0, 5, UNKNOWN, (x, n) -> x.match(3, n, 0));
            Edge.due(scene, scene == Scenes.BARE ? 0 : 6, x -> x.match(0, 5, 0));
            Edge.due(scene, scene == Scenes.BARE ? 0 : 6, x -> x.match(5, 0, 2));
            Edge.bounds(scene, 0, 2, OUTSIDE, (x, n) -> x.match(0, 1, n));
        }
        for (int village = 0; village < 6; village++) {
            int v = village;
            Edge.refused(Scenes.SOME, OUTSIDE, x -> x.match(v, v, 0));
            Edge.refused(Scenes.BRIMFUL, OUTSIDE, x -> x.match(v, v, 2));
            Edge.refused(Scenes.SOME, OUTSIDE, x -> x.match(v, v, 3));
        }
        Edge.refused(Scenes.SOME, UNKNOWN, x -> x.match(6, 0, 3));
        Edge.refused(Scenes.SOME, UNKNOWN, x -> x.match(0, -1, -1));
        Edge.refused(Scenes.SOME, UNKNOWN, x -> x.match(6, 6, 0));
        Edge.refused(Scenes.SOME, UNKNOWN, x -> x.match(-1, -1, 3));
        Edge.refused(Scenes.SOME, UNKNOWN, x -> x.match(-1, 6, 0));
        Edge.refused(Scenes.BRIMFUL, UNKNOWN, x -> x.match(6, 0, 0));
        Edge.refused(Scenes.BRIMFUL, UNKNOWN, x -> x.match(0, 6, 0));
        Edge.refused(Scenes.BRIMFUL, UNKNOWN, x -> x.match(6, 6, 3));
        Edge.refused(Scenes.BRIMFUL, OUTSIDE, x -> x.match(0, 1, 3));
        Edge.refused(Scenes.BRIMFUL, OUTSIDE, x -> x.match(0, 1, -1));
    }

    // ---- promise 20

    private static void endsHaveNumbersFrom0On() {
        Calls x = new Calls();
        x.match(0, 1, 0);
        x.match(1, 2, 1);
        for (int e = 0; e < 40; e++) {
            Edge.due(x, x.end(0, 100), OUTSIDE);
            Edge.due(x, x.end(0, 0), e);
            Edge.due(x, x.end(1, e % 2), e);
        }
    }

    private static void fortyEndsAtMost() {
        Calls x = new Calls();
        x.match(0, 1, 0);
        x.match(0, 1, 0);
        for (int e = 0; e < 39; e++) {
            x.end(0, 0);
        }
        Edge.due(x, x.end(0, 20), 39);
        Edge.due(x, x.end(0, 0), FULL);
        Edge.due(x, x.end(0, 1), FULL);
        aboutIs(x, 0, 40, 40, 20, 0, OPEN);
        Edge.due(x, x.end(1, 0), 0);
        // The last of forty may be mended, and counts.
        Edge.due(x, x.mend(0, 39, 21), 20);
        aboutIs(x, 0, 40, 40, 21, 0, HOME);
        Edge.refused(Scenes.BRIMFUL, FULL, y -> y.end(0, 0));
        Edge.refused(Scenes.BRIMFUL, FULL, y -> y.end(0, 99));
        Edge.refused(Scenes.BRIMFUL, FULL, y -> y.end(0, -99));
    }

    private static void scoresTo99() {
        Edge.bounds(Scenes.SOME, -99, 99, OUTSIDE, (x, n) -> x.end(0, n));
        Edge.bounds(Scenes.SOME, -99, 99, OUTSIDE, (x, n) -> x.end(4, n));
        Calls x = new Calls();
        game(x, 0, 99);
        int[][] cases = {{99, 99, 0, HOME}, {-99, 0, 99, AWAY}, {98, 98, 0, OPEN}, {-98, 0, 98, OPEN}, {0, 0, 0, OPEN},
            {1, 1, 0, OPEN}, {-1, 0, 1, OPEN}};
        for (int m = 0; m < cases.length; m++) {
            x.match(0, 1, 0);
            Edge.due(x, x.end(m, cases[m][0]), 0);
            aboutIs(x, m, 1, 1, cases[m][1], cases[m][2], cases[m][3]);
        }
    }

    private static void pointsAreSums() {
        Calls x = new Calls();
        game(x, 0, 99);
        x.match(0, 1, 0);
        aboutIs(x, 0, 0, 0, 0, 0, OPEN);
        int home = 0;
        int away = 0;
        for (int e = 0; e < 40; e++) {
            int score = e % 5 - 2;
            x.end(0, score);
            home += Math.max(0, score);
            away += Math.max(0, -score);
            Edge.due(x, x.about(0, 5), home);
            Edge.due(x, x.about(0, 6), away);
        }
        aboutIs(x, 0, 40, 40, 24, 24, OPEN);
        // Up to 98 and then 99 more: as many as a match can bring.
        Calls most = new Calls();
        game(most, 0, 99);
        most.match(0, 1, 0);
        most.end(0, 98);
        most.end(0, -98);
        most.end(0, 99);
        aboutIs(most, 0, 3, 3, 197, 98, HOME);
    }

    private static void wonAtTheGame() {
        for (int game : new int[] {1, 2, 21, 98, 99}) {
            for (int sign = -1; sign <= 1; sign += 2) {
                int won = sign == 1 ? HOME : AWAY;
                Calls x = new Calls();
                game(x, 0, game);
                for (int m = 0; m < 4; m++) {
                    x.match(0, 1, 0);
                }
                x.end(0, sign * (game - 1));
                Edge.due(x, x.about(0, 7), OPEN);
                x.end(0, sign);
                Edge.due(x, x.about(0, 7), won);
                x.end(1, sign * game);
                Edge.due(x, x.about(1, 7), won);
                x.end(2, sign * Math.min(99, game + 1));
                Edge.due(x, x.about(2, 7), won);
                Edge.due(x, x.about(3, 7), OPEN);
            }
        }
    }

    private static void byRulesAsTheyAreNow() {
        Calls x = new Calls();
        x.match(0, 1, 0);
        x.match(1, 0, 1);
        for (int m = 0; m < 2; m++) {
            x.end(m, 10);
            x.end(m, -12);
            x.end(m, 3);
        }
        int[][] games = {{21, 3, 3, 13, 12, OPEN}, {10, 3, 1, 10, 0, HOME}, {11, 3, 2, 10, 12, AWAY}, {12, 3, 2, 10, 12, AWAY},
            {13, 3, 3, 13, 12, HOME}, {14, 3, 3, 13, 12, OPEN}, {1, 3, 1, 10, 0, HOME}, {99, 3, 3, 13, 12, OPEN}};
        for (int[] g : games) {
            game(x, 0, g[0]);
            for (int m = 0; m < 2; m++) {
                aboutIs(x, m, g[1], g[2], g[3], g[4], g[5]);
            }
            Edge.due(x, x.count(5), g[5] == OPEN ? 2 : 0);
        }
        // The rule of the other village does not matter, nor does a faulty text.
        game(x, 1, 1);
        aboutIs(x, 0, 3, 3, 13, 12, OPEN);
        x.feedAll("game 1; x");
        x.rule(0);
        aboutIs(x, 0, 3, 3, 13, 12, OPEN);
        x.rule(0);
        aboutIs(x, 0, 3, 3, 13, 12, OPEN);
    }

    private static void moreThanTheOtherOne() {
        Calls x = new Calls();
        game(x, 0, 10);
        game(x, 1, 99);
        x.match(0, 1, 2);
        x.end(0, 9);
        x.end(0, -20);
        // Behind end 2 both have 20 and are alike: nobody has won.
        x.end(0, 11);
        aboutIs(x, 0, 3, 3, 20, 20, OPEN);
        x.end(0, 5);
        aboutIs(x, 0, 4, 4, 25, 20, OPEN);
        x.end(0, -5);
        aboutIs(x, 0, 5, 5, 25, 25, OPEN);
        x.end(0, -1);
        aboutIs(x, 0, 6, 6, 25, 26, OPEN);
        x.end(0, 0);
        aboutIs(x, 0, 7, 7, 25, 26, AWAY);
        // The one that has as many must be the one that has more.
        Calls y = new Calls();
        game(y, 0, 5);
        y.match(0, 1, 0);
        y.end(0, 4);
        y.end(0, -4);
        y.end(0, 0);
        aboutIs(y, 0, 3, 3, 4, 4, OPEN);
        y.end(0, -1);
        aboutIs(y, 0, 4, 4, 4, 5, AWAY);
    }

    private static void endsBehindDoNotCount() {
        Calls x = new Calls();
        x.match(0, 1, 0);
        for (int score : new int[] {10, -20, 5, -3}) {
            x.end(0, score);
        }
        aboutIs(x, 0, 4, 4, 15, 23, AWAY);
        x.mend(0, 0, 21);
        aboutIs(x, 0, 4, 1, 21, 0, HOME);
        Edge.due(x, x.standing(1, 4), 0);
        Edge.due(x, x.standing(0, 4), 21);
        x.mend(0, 0, 20);
        aboutIs(x, 0, 4, 3, 25, 20, HOME);
        x.mend(0, 2, 0);
        aboutIs(x, 0, 4, 4, 20, 23, AWAY);
    }

    private static void endRefused() {
        Edge.refused(Scenes.BARE, UNKNOWN, x -> x.end(0, 0));
        Edge.outOf(Scenes.SOME, 0, 5, UNKNOWN, (x, n) -> x.end(n, 0));
        Edge.outOf(Scenes.BRIMFUL, 0, 23, UNKNOWN, (x, n) -> x.end(n, 0));
        Edge.refused(Scenes.SOME, UNKNOWN, x -> x.end(6, 100));
        Edge.refused(Scenes.SOME, UNKNOWN, x -> x.end(-1, -100));
        // Matches 1, 2, 3 and 5 are not open.
        for (int m : new int[] {1, 2, 3, 5}) {
            Edge.refused(Scenes.SOME, OUTSIDE, x -> x.end(m, 100));
            Edge.refused(Scenes.SOME, OUTSIDE, x -> x.end(m, -100));
            Edge.refused(Scenes.SOME, NOT, x -> x.end(m, 99));
            Edge.refused(Scenes.SOME, NOT, x -> x.end(m, 0));
        }
        Edge.refused(Scenes.BRIMFUL, OUTSIDE, x -> x.end(0, 100));
        Edge.refused(Scenes.BRIMFUL, OUTSIDE, x -> x.end(0, Integer.MIN_VALUE));
        Edge.Run fullAndClosed = x -> {
            Scenes.BRIMFUL.play(x);
            x.dusk(0);
        };
        Edge.refused(fullAndClosed, NOT, x -> x.end(0, 0));
        Edge.refused(fullAndClosed, OUTSIDE, x -> x.end(0, 100));
        Edge.Run fullAndWon = x -> {
            Scenes.BRIMFUL.play(x);
            x.mend(0, 39, 99);
        };
        Edge.refused(fullAndWon, NOT, x -> x.end(0, 0));
    }

    // ---- promise 21

    private static void mendTellsWhatItWas() {
        Calls x = new Calls();
        x.match(0, 1, 0);
        for (int e = 0; e < 40; e++) {
            x.end(0, e % 3 - 1);
        }
        for (int e = 39; e >= 0; e--) {
            Edge.due(x, x.mend(0, e, 99 - 5 * e), e % 3 - 1);
        }
        for (int e = 0; e < 40; e++) {
            Edge.due(x, x.mend(0, e, 0), 99 - 5 * e);
            Edge.due(x, x.mend(0, e, 0), 0);
        }
        aboutIs(x, 0, 40, 40, 0, 0, OPEN);
    }

    private static void mendOpensAndCloses() {
        Calls x = new Calls();
        x.match(0, 1, 0);
        x.end(0, 21);
        Edge.due(x, x.end(0, 0), NOT);
        Edge.due(x, x.mend(0, 0, 20), 21);
        Edge.due(x, x.about(0, 7), OPEN);
        Edge.due(x, x.end(0, 0), 1);
        Edge.due(x, x.mend(0, 1, -99), 0);
        Edge.due(x, x.about(0, 7), AWAY);
        Edge.due(x, x.dusk(0), NOT);
        Edge.due(x, x.mend(0, 0, 99), 20);
        aboutIs(x, 0, 2, 1, 99, 0, HOME);
        // An end that does not count is mended all the same, and counts later.
        Edge.due(x, x.mend(0, 1, 7), -99);
        aboutIs(x, 0, 2, 1, 99, 0, HOME);
        Edge.due(x, x.mend(0, 0, -1), 99);
        aboutIs(x, 0, 2, 2, 7, 1, OPEN);
    }

    private static void mendRefused() {
        Edge.refused(Scenes.BARE, UNKNOWN, x -> x.mend(0, 0, 0));
        Edge.outOf(Scenes.SOME, 0, 5, UNKNOWN, (x, n) -> x.mend(n, 0, 0));
        Edge.outOf(Scenes.BRIMFUL, 0, 23, UNKNOWN, (x, n) -> x.mend(n, 0, 0));
        Edge.bounds(Scenes.SOME, 0, 2, UNKNOWN, (x, n) -> x.mend(0, n, 1));
        Edge.bounds(Scenes.SOME, 0, 0, UNKNOWN, (x, n) -> x.mend(1, n, 1));
        Edge.bounds(Scenes.SOME, 0, 1, UNKNOWN, (x, n) -> x.mend(5, n, 1));
        Edge.bounds(Scenes.BRIMFUL, 0, 39, UNKNOWN, (x, n) -> x.mend(0, n, 1));
        // Match 4 has no end.
        Edge.refused(Scenes.SOME, UNKNOWN, x -> x.mend(4, 0, 0));
        Edge.refused(Scenes.SOME, UNKNOWN, x -> x.mend(4, -1, 0));
        for (int m : new int[] {0, 1, 2, 3, 5}) {
            Edge.bounds(Scenes.SOME, -99, 99, OUTSIDE, (x, n) -> x.mend(m, 0, n));
        }
        Edge.refused(Scenes.SOME, UNKNOWN, x -> x.mend(6, 0, 100));
        Edge.refused(Scenes.SOME, UNKNOWN, x -> x.mend(0, 3, 100));
        Edge.refused(Scenes.SOME, UNKNOWN, x -> x.mend(0, -1, -100));
        Edge.refused(Scenes.SOME, UNKNOWN, x -> x.mend(-1, -1, -100));
    }

    // ---- promise 22

    private static void closedAtDusk() {
        int[][] ends = {{}, {0}, {3, -3}, {3, -2}, {3, -4}, {20}, {-20}, {0, 0, 1}};
        int[] states = {DRAWN, DRAWN, DRAWN, HOME, AWAY, HOME, AWAY, HOME};
        Calls x = new Calls();
        for (int m = 0; m < ends.length; m++) {
            x.match(0, 1, m % 3);
            for (int score : ends[m]) {
                x.end(m, score);
            }
            Edge.due(x, x.about(m, 7), OPEN);
            Edge.due(x, x.dusk(m), 1);
            Edge.due(x, x.about(m, 7), states[m]);
            Edge.due(x, x.about(m, 4), ends[m].length);
            Edge.due(x, x.dusk(m), NOT);
        }
        // Closed, it is drawn or won by its ends as they are now.
        Edge.due(x, x.mend(2, 0, 2), 3);
        Edge.due(x, x.about(2, 7), AWAY);
        Edge.due(x, x.mend(2, 0, 4), 2);
        Edge.due(x, x.about(2, 7), HOME);
        Edge.due(x, x.mend(2, 0, 3), 4);
        Edge.due(x, x.about(2, 7), DRAWN);
    }

    private static void closedAndWonByEnds() {
        Calls x = new Calls();
        x.match(0, 1, 0);
        x.end(0, 5);
        x.end(0, -8);
        x.dusk(0);
        aboutIs(x, 0, 2, 2, 5, 8, AWAY);
        // Won by its first end now, whatever the second brought.
        game(x, 0, 5);
        aboutIs(x, 0, 2, 1, 5, 0, HOME);
        game(x, 0, 6);
        aboutIs(x, 0, 2, 2, 5, 8, AWAY);
        x.mend(0, 1, -5);
        aboutIs(x, 0, 2, 2, 5, 5, DRAWN);
        game(x, 0, 5);
        aboutIs(x, 0, 2, 1, 5, 0, HOME);
        // It stays closed: never open again.
        x.rule(0);
        x.mend(0, 0, 0);
        x.mend(0, 1, 0);
        aboutIs(x, 0, 2, 2, 0, 0, DRAWN);
        Edge.due(x, x.end(0, 1), NOT);
        Edge.due(x, x.dusk(0), NOT);
    }

    private static void elseItIsOpen() {
        Calls x = new Calls();
        x.match(0, 1, 0);
        Edge.due(x, x.about(0, 7), OPEN);
        x.end(0, 20);
        Edge.due(x, x.about(0, 7), OPEN);
        x.end(0, 1);
        Edge.due(x, x.dusk(0), NOT);
        // A refused dusk does not close it.
        x.mend(0, 1, 0);
        Edge.due(x, x.about(0, 7), OPEN);
        Edge.due(x, x.count(5), 1);
        Edge.due(x, x.dusk(0), 1);
        Edge.due(x, x.about(0, 7), HOME);
        Edge.due(x, x.count(5), 0);
    }

    private static void duskRefused() {
        Edge.refused(Scenes.BARE, UNKNOWN, x -> x.dusk(0));
        Edge.outOf(Scenes.SOME, 0, 5, UNKNOWN, Calls::dusk);
        Edge.outOf(Scenes.BRIMFUL, 0, 23, UNKNOWN, Calls::dusk);
        for (int m : new int[] {1, 2, 3, 5}) {
            Edge.refused(Scenes.SOME, NOT, x -> x.dusk(m));
        }
        Edge.refused(Scenes.BRIMFUL, NOT, x -> x.dusk(23));
        Edge.due(Scenes.SOME, 1, x -> x.dusk(0));
        Edge.due(Scenes.SOME, 1, x -> x.dusk(4));
        Edge.due(Scenes.BRIMFUL, 1, x -> x.dusk(0));
    }

    // ---- promise 23

    private static void aboutEach() {
        int[][] some = {{0, 1, 0, 3, 3, 5, 7, OPEN}, {1, 2, 1, 1, 1, 0, 15, AWAY}, {2, 0, 2, 2, 2, 4, 4, DRAWN},
            {3, 4, 2, 1, 1, 1, 0, HOME}, {5, 0, 1, 0, 0, 0, 0, OPEN}, {4, 5, 2, 2, 1, 30, 0, HOME}};
        Calls x = Edge.behind(Scenes.SOME);
        for (int m = 0; m < some.length; m++) {
            for (int what = 0; what < 8; what++) {
                Edge.due(x, x.about(m, what), some[m][what]);
            }
        }
        Calls all = new Calls();
        for (int m = 0; m < 24; m++) {
            all.match(m % 6, (m + 1 + m / 6) % 6, m % 3);
        }
        for (int m = 0; m < 24; m++) {
            int[] due = {m % 6, (m + 1 + m / 6) % 6, m % 3, 0, 0, 0, 0, OPEN};
            for (int what = 0; what < 8; what++) {
                Edge.due(all, all.about(m, what), due[what]);
            }
        }
    }

    private static void aboutRefused() {
        Edge.refused(Scenes.BARE, UNKNOWN, x -> x.about(0, 0));
        Edge.bounds(Scenes.SOME, 0, 5, UNKNOWN, (x, n) -> x.about(n, 7));
        Edge.bounds(Scenes.BRIMFUL, 0, 23, UNKNOWN, (x, n) -> x.about(n, 0));
        for (int m = 0; m < 6; m++) {
            int of = m;
            Edge.bounds(Scenes.SOME, 0, 7, OUTSIDE, (x, n) -> x.about(of, n));
        }
        Edge.refused(Scenes.SOME, UNKNOWN, x -> x.about(6, 8));
        Edge.refused(Scenes.SOME, UNKNOWN, x -> x.about(-1, -1));
        Edge.refused(Scenes.BARE, UNKNOWN, x -> x.about(0, 8));
    }
}
