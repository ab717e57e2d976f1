/** Edges of part 5, the table of all matches: promises 24 to 26. */
final class TableEdges {
    private static final int NONE = Edge.NONE;
    private static final int UNKNOWN = Edge.UNKNOWN;
    private static final int OUTSIDE = Edge.OUTSIDE;
    private static final int LARGE = Edge.LARGE;
    private static final String[] WORDS = {"table", "won", "diff", "for", "met"};

    /** 0 wins twice by little, 1 once by much and draws twice: each word orders them in its own way. */
    private static final Edge.Run FIVE_MATCHES = x -> {
        play(x, 0, 2, 1);
        play(x, 0, 3, 1);
        play(x, 1, 2, 20);
        play(x, 1, 4, 0);
        play(x, 1, 5, 0);
    };

    private TableEdges() {
    }

    static void run() {
        Edge.test(24, "Of a VILLAGE: what = 0 MATCHES, 1 WON, 2 DRAWN, 3 lost, 4 points for it, 5 against it, 6 TABLE, 7 PLACE.",
                TableEdges::standingOfEach);
        Edge.test(24, "what = 0 MATCHES, 1 WON, 2 DRAWN, 3 lost", TableEdges::standingWith24Matches);
        Edge.test(24, "TABLE of a VILLAGE: twice the MATCHES it has WON and those DRAWN.", TableEdges::twiceWonAndDrawn);
        Edge.test(24, "A VILLAGE is ahead of another one, if it has more by the first word by which they differ.",
                TableEdges::byTheFirstWord);
        Edge.test(24, "PLACE: 1 and those that are ahead.", TableEdges::placesFrom1To6);
        Edge.test(24, "UNKNOWN, OUTSIDE.", TableEdges::standingRefused);
        Edge.test(25, "THE TEXT (it is empty then) becomes THE ORDER: how many words;", TableEdges::everyOrder);
        Edge.test(25, "THE ORDER is a text (60 bytes at most)", TableEdges::sixtyBytesAtMost);
        Edge.test(25, "a text of more than 60 bytes has FAULT 1 at byte 60).", TableEdges::faultsOfLongTexts);
        Edge.test(25, "of 1 to 5 unlike words,", TableEdges::oneToFiveWords);
        Edge.test(25, "of 1 to 5 unlike words,", TableEdges::fifthWord);
        Edge.test(25, "blanks between them:", TableEdges::bytesBetweenWords);
        Edge.test(25, "table, won (MATCHES WON),", TableEdges::byEachWord);
        Edge.test(25, "diff (points for it less against it in all its MATCHES, OPEN ones too), for (points for it),",
                TableEdges::openOnesToo);
        Edge.test(25, "met (TABLE of MATCHES between those alone that are alike by all words ahead).", TableEdges::metAmongLikes);
        Edge.test(25, "At first it is: table.", TableEdges::atFirstTable);
        Edge.test(25, "FAULTS as above: 1, and 3 a word again.", TableEdges::faultsOfOrders);
        Edge.test(25, "-10 less the number of its FAULT (THE ORDER is as it was;", TableEdges::orderIsAsItWas);
        Edge.test(26, "REACH: each OPEN MATCH (6 at most, else LARGE)", TableEdges::sixOpenAtMost);
        Edge.test(26, "may be WON by either or DRAWN:", TableEdges::wonByEitherOrDrawn);
        Edge.test(26, "the least and the greatest PLACE of a VILLAGE by TABLE alone over all ways.", TableEdges::byTableAlone);
        Edge.test(26, "over all ways.", TableEdges::overAllWays);
        Edge.test(26, "REACH: what = 0 the least, 1 the greatest PLACE.", TableEdges::leastAndGreatest);
        Edge.test(26, "UNKNOWN, OUTSIDE, LARGE.", TableEdges::reachRefused);
    }

    private static void play(Calls x, int home, int away, int... scores) {
        int m = x.match(home, away, 0);
        for (int score : scores) {
            x.end(m, score);
        }
        x.dusk(m);
    }

    private static void placesAre(Calls x, int... due) {
        for (int village = 0; village < 6; village++) {
            Edge.due(x, x.standing(village, 7), due[village]);
        }
    }

    private static void standingIs(Calls x, int village, int... due) {
        for (int what = 0; what < due.length; what++) {
            Edge.due(x, x.standing(village, what), due[what]);
        }
    }

    /** Behind the five matches and an order of two words; a faulty text leaves that as it was. */
    private static Calls order(String text, int answer, int fault) {
        Calls x = new Calls();
        FIVE_MATCHES.play(x);
        x.feedAll("won diff");
        x.order();
        x.feedAll(text);
        int got = x.order();
        Due.due(Edge.current() + ": order of '" + text + "'", got, answer);
        Due.due(Edge.current() + ": fault of '" + text + "'", x.fault(), fault);
        Edge.due(x, x.count(6), 0);
        Edge.due(x, x.count(7), answer < 0 ? 2 : answer);
        if (answer < 0) {
            placesAre(x, 1, 2, 6, 5, 3, 3);
        }
        return x;
    }

    // ---- promise 24

    private static void standingOfEach() {
        Calls x = Edge.behind(Scenes.SOME);
        standingIs(x, 0, 3, 0, 1, 0, 9, 11, 1);
        standingIs(x, 1, 2, 0, 0, 1, 7, 20, 0);
        standingIs(x, 2, 2, 1, 1, 0, 19, 4, 3);
        standingIs(x, 3, 1, 1, 0, 0, 1, 0, 2);
        standingIs(x, 4, 2, 1, 0, 1, 30, 1, 2);
        standingIs(x, 5, 2, 0, 0, 1, 0, 30, 0);
    }

    private static void standingWith24Matches() {
        Calls x = new Calls();
        for (int m = 0; m < 24; m++) {
            x.match(m % 2, 1 - m % 2, 0);
        }
        standingIs(x, 0, 24, 0, 0, 0, 0, 0, 0, 1);
        for (int m = 0; m < 24; m++) {
            x.end(m, m % 2 == 0 ? 99 : -99);
        }
        standingIs(x, 0, 24, 24, 0, 0, 24 * 99, 0, 48, 1);
        standingIs(x, 1, 24, 0, 0, 24, 0, 24 * 99, 0, 2);
        standingIs(x, 2, 0, 0, 0, 0, 0, 0, 0, 2);
    }

    private static void twiceWonAndDrawn() {
        Calls x = new Calls();
        int won = 0;
        int drawn = 0;
        for (int m = 0; m < 24; m++) {
            int score = m % 3 - 1;
            play(x, 0, 1 + m % 5, score);
            won += score > 0 ? 1 : 0;
            drawn += score == 0 ? 1 : 0;
            standingIs(x, 0, m + 1, won, drawn, m + 1 - won - drawn);
            Edge.due(x, x.standing(0, 6), 2 * won + drawn);
        }
    }

    private static void byTheFirstWord() {
        // By table 0 and 1 are alike, by diff 1 is ahead, by won 0 is.
        Object[][] orders = {{"table", 1, 1, 5, 5, 3, 3}, {"table diff", 2, 1, 6, 5, 3, 3}, {"table won", 1, 2, 5, 5, 3, 3},
            {"table won diff", 1, 2, 6, 5, 3, 3}, {"table diff won", 2, 1, 6, 5, 3, 3}, {"diff table won", 2, 1, 6, 5, 3, 3},
            {"won table", 1, 2, 5, 5, 3, 3}, {"for table", 2, 1, 5, 5, 3, 3}, {"won for diff", 1, 2, 6, 5, 3, 3}};
        for (Object[] o : orders) {
            Calls x = Edge.behind(FIVE_MATCHES);
            x.feedAll((String) o[0]);
            Edge.letIn(x, x.order());
            for (int village = 0; village < 6; village++) {
                Edge.due(x, x.standing(village, 7), (int) o[1 + village]);
            }
        }
    }

    private static void placesFrom1To6() {
        placesAre(new Calls(), 1, 1, 1, 1, 1, 1);
        // Each one beats all that have a higher number.
        Calls x = new Calls();
        for (int one = 0; one < 6; one++) {
            for (int other = one + 1; other < 6; other++) {
                play(x, one, other, 1);
            }
        }
        placesAre(x, 1, 2, 3, 4, 5, 6);
        // One alone ahead of five, and five ahead of one.
        Calls best = new Calls();
        play(best, 3, 0, 1);
        placesAre(best, 2, 2, 2, 1, 2, 2);
        Calls worst = new Calls();
        for (int village = 0; village < 6; village++) {
            if (village != 4) {
                play(worst, village, 4, 1);
            }
        }
        placesAre(worst, 1, 1, 1, 1, 6, 1);
        Calls twos = new Calls();
        play(twos, 0, 1, 0);
        placesAre(twos, 1, 1, 3, 3, 3, 3);
    }

    private static void standingRefused() {
        for (Edge.Run scene : new Edge.Run[] {Scenes.BARE, Scenes.SOME, Scenes.BRIMFUL}) {
            Edge.bounds(scene, 0, 5, UNKNOWN, (x, n) -> x.standing(n, 7));
            Edge.bounds(scene, 0, 7, OUTSIDE, (x, n) -> x.standing(5, n));
        }
        Edge.refused(Scenes.SOME, UNKNOWN, x -> x.standing(6, 8));
        Edge.refused(Scenes.SOME, UNKNOWN, x -> x.standing(-1, -1));
    }

    // ---- promise 25

    private static void everyOrder() {
        everyOrderFrom("", 0, 0);
    }

    private static void everyOrderFrom(String ahead, int taken, int words) {
        for (int k = 0; k < 5; k++) {
            String text = words == 0 ? WORDS[k] : ahead + " " + WORDS[k];
            if ((taken >> k & 1) == 0) {
                order(text, words + 1, NONE);
                everyOrderFrom(text, taken | 1 << k, words + 1);
            } else {
                order(text, -13, text.length() - WORDS[k].length());
            }
        }
    }

    private static void sixtyBytesAtMost() {
        String five = "table won diff for met";
        order(five + " ".repeat(60 - five.length()), 5, NONE);
        order(five + " ".repeat(61 - five.length()), -11, 60);
        order(" ".repeat(60 - five.length()) + five, 5, NONE);
        order(" ".repeat(61 - five.length()) + five, -11, 60);
        order("won" + " ".repeat(56), 1, NONE);
        order("won" + " ".repeat(57), 1, NONE);
        order("won" + " ".repeat(58), -11, 60);
        order("won" + " ".repeat(97), -11, 60);
        order("won" + " ".repeat(54) + "met", 2, NONE);
        order("won" + " ".repeat(55) + "met", -11, 60);
        order("won" + " ".repeat(57) + "met", -11, 60);
        order("won" + " ".repeat(94) + "met", -11, 60);
        order(" ".repeat(59), -11, 59);
        order(" ".repeat(60), -11, 60);
        order(" ".repeat(61), -11, 60);
        order(" ".repeat(100), -11, 60);
    }

    private static void faultsOfLongTexts() {
        // Byte 60 is one fault among the others: the first byte that has one.
        order("x" + " ".repeat(60), -11, 0);
        order("won won" + " ".repeat(60), -13, 4);
        order("won" + " ".repeat(56) + "x ", -11, 59);
        order("won" + " ".repeat(57) + "x", -11, 60);
        order("won" + " ".repeat(57) + "won", -11, 60);
        order("won" + " ".repeat(56) + "won", -13, 59);
        order("won" + " ".repeat(58) + "won", -11, 60);
        order("won" + " ".repeat(58) + "x", -11, 60);
        order(" ".repeat(58) + "table", -11, 60);
        order(" ".repeat(58) + "tables", -11, 58);
        order("w".repeat(61), -11, 0);
        order("w".repeat(100), -11, 0);
    }

    private static void oneToFiveWords() {
        order("", -11, 0);
        order(" ", -11, 1);
        order("     ", -11, 5);
        for (String word : WORDS) {
            order(word, 1, NONE);
            order(word + " " + word, -13, word.length() + 1);
        }
        order("met for diff won table", 5, NONE);
        // A sixth is one again, or none of them.
        for (String word : WORDS) {
            order("met for diff won table " + word, -13, 23);
        }
        order("met for diff won table x", -11, 23);
        order("met for diff won table ;", -11, 23);
    }

    /** Places by the order without its last word, and by the whole of it. */
    private static void placesWithLast(Calls x, String words, String last, int[] without, int[] with) {
        x.feedAll(words);
        Edge.due(x, x.order(), 4);
        placesAre(x, without);
        x.feedAll(words + " " + last);
        Edge.due(x, x.order(), 5);
        placesAre(x, with);
    }

    private static void fifthWord() {
        // Villages 0 and 1 are alike, but for who has won when they met.
        Calls met = new Calls();
        play(met, 0, 1, 1);
        play(met, 0, 2, -1);
        play(met, 1, 3, 1);
        placesWithLast(met, "table won diff for", "met", new int[] {2, 2, 1, 6, 4, 4}, new int[] {2, 3, 1, 6, 4, 4});
        // 2 to 1 and 1 to 0.
        Calls points = new Calls();
        play(points, 0, 2, 2, -1);
        play(points, 1, 3, 1);
        placesWithLast(points, "table won diff met", "for", new int[] {1, 1, 5, 5, 3, 3}, new int[] {1, 2, 5, 6, 3, 3});
        // 2 to 0 and 2 to 1.
        Calls diff = new Calls();
        play(diff, 0, 2, 2);
        play(diff, 1, 3, 2, -1);
        placesWithLast(diff, "table won for met", "diff", new int[] {1, 1, 4, 3, 4, 4}, new int[] {1, 2, 6, 3, 4, 4});
        // One won and one lost, and two drawn.
        Calls won = new Calls();
        play(won, 0, 2, 1);
        play(won, 0, 3, -1);
        play(won, 1, 4, 0);
        play(won, 1, 5, 1, -1);
        placesWithLast(won, "table diff for met", "won", new int[] {2, 2, 6, 1, 5, 4}, new int[] {2, 3, 6, 1, 5, 4});
        // One drawn, and none played.
        Calls table = new Calls();
        play(table, 0, 4, 0);
        play(table, 4, 5, 1);
        placesWithLast(table, "won diff for met", "table", new int[] {2, 2, 2, 2, 1, 6}, new int[] {2, 3, 3, 3, 1, 6});
    }

    private static void bytesBetweenWords() {
        for (int sign = 0; sign < 256; sign++) {
            char b = (char) sign;
            boolean blank = sign == 32;
            boolean letter = sign >= 97 && sign <= 122;
            order("won" + b + "met", blank ? 2 : -11, blank ? NONE : letter ? 0 : 3);
            order(b + "won", blank ? 1 : -11, blank ? NONE : 0);
            order("won" + b, blank ? 1 : -11, blank ? NONE : letter ? 0 : 3);
            order("wo" + b + "n", -11, 0);
            order("won " + b, blank ? 1 : -11, blank ? NONE : 4);
        }
        for (String word : WORDS) {
            for (int place = 0; place < word.length(); place++) {
                for (int sign = 97; sign <= 122; sign++) {
                    boolean right = sign == word.charAt(place);
                    String text = word.substring(0, place) + (char) sign + word.substring(place + 1);
                    order(text, right ? 1 : -11, right ? NONE : 0);
                }
            }
        }
        order("   won    met   ", 2, NONE);
        order("won, met", -11, 3);
        order("won;", -11, 3);
    }

    private static void byEachWord() {
        int[][] places = {{1, 1, 5, 5, 3, 3}, {1, 2, 3, 3, 3, 3}, {2, 1, 6, 5, 3, 3}, {2, 1, 3, 3, 3, 3}, {1, 1, 5, 5, 3, 3}};
        for (int k = 0; k < 5; k++) {
            placesAre(order(WORDS[k], 1, NONE), places[k]);
        }
    }

    private static void openOnesToo() {
        Calls x = new Calls();
        x.match(0, 1, 0);
        x.end(0, 3);
        x.match(2, 3, 0);
        x.end(1, 2);
        x.end(1, -2);
        // Both are open: nothing is won, but the points are there.
        placesAre(x, 1, 1, 1, 1, 1, 1);
        x.feedAll("won");
        x.order();
        placesAre(x, 1, 1, 1, 1, 1, 1);
        x.feedAll("diff");
        x.order();
        placesAre(x, 1, 6, 2, 2, 2, 2);
        x.feedAll("for");
        x.order();
        placesAre(x, 1, 4, 2, 2, 4, 4);
        x.feedAll("met");
        x.order();
        placesAre(x, 1, 1, 1, 1, 1, 1);
        // Those behind the end that won count for nothing.
        x.feedAll("for");
        x.order();
        x.mend(1, 0, -21);
        standingIs(x, 2, 1, 0, 0, 1, 0, 21, 0, 3);
        placesAre(x, 2, 3, 3, 1, 3, 3);
    }

    private static void metAmongLikes() {
        // 0, 1, 2 have four each: 0 beat 1, 1 beat 2, and all of them 3.
        Calls x = new Calls();
        play(x, 0, 1, 1);
        play(x, 1, 2, 1);
        play(x, 0, 3, 2);
        play(x, 1, 3, 3);
        play(x, 2, 3, 9);
        play(x, 2, 3, 9);
        x.feedAll("table met");
        x.order();
        placesAre(x, 1, 1, 3, 4, 4, 4);
        // An open match between likes changes nothing, a drawn one does.
        x.match(2, 0, 0);
        x.end(6, 5);
        placesAre(x, 1, 1, 3, 4, 4, 4);
        x.mend(6, 0, 0);
        x.dusk(6);
        placesAre(x, 1, 3, 1, 4, 4, 4);
        // Likes by words behind it do not matter, and by none ahead it is the whole table.
        Calls first = new Calls();
        play(first, 0, 1, 1);
        play(first, 2, 3, 5);
        first.feedAll("met for");
        first.order();
        placesAre(first, 2, 3, 1, 3, 3, 3);
        first.feedAll("for met");
        first.order();
        placesAre(first, 2, 3, 1, 3, 3, 3);
        // Alike by two words ahead: 0 and 1 by won and for, 2 by won alone.
        Calls two = new Calls();
        play(two, 0, 3, 5);
        play(two, 1, 3, 5);
        play(two, 2, 3, 6);
        two.match(0, 1, 0);
        two.dusk(3);
        play(two, 2, 0, 0);
        two.feedAll("won for met");
        two.order();
        placesAre(two, 2, 2, 1, 4, 4, 4);
        two.feedAll("won met");
        two.order();
        placesAre(two, 1, 2, 2, 4, 4, 4);
    }

    private static void atFirstTable() {
        Calls x = Edge.behind(FIVE_MATCHES);
        Edge.due(x, x.count(7), 1);
        placesAre(x, 1, 1, 5, 5, 3, 3);
    }

    private static void faultsOfOrders() {
        order("tables", -11, 0);
        order("tabl", -11, 0);
        order("Table", -11, 0);
        order("tablewon", -11, 0);
        order("table 1", -11, 6);
        order("table 100", -11, 6);
        order("1", -11, 0);
        order("ringer", -11, 0);
        order("table near", -11, 6);
        order("table;won", -11, 5);
        order("table table", -13, 6);
        order("table  table x", -13, 7);
        order("table x table", -11, 6);
        order("won table won table", -13, 10);
        order("won wont", -11, 4);
        order("won wo", -11, 4);
        order("won" + (char) 0 + "won", -11, 3);
    }

    private static void orderIsAsItWas() {
        for (String faulty : new String[] {"", "x", "for x", "for for", "met table won x", "for" + " ".repeat(60)}) {
            Calls x = new Calls();
            FIVE_MATCHES.play(x);
            x.feedAll("diff");
            x.order();
            x.feedAll(faulty);
            int answer = x.order();
            Edge.due(x, answer, faulty.equals("for for") ? -13 : -11);
            Edge.due(x, x.count(7), 1);
            Edge.due(x, x.count(6), 0);
            placesAre(x, 2, 1, 6, 5, 3, 3);
            // What the faulty one told is not in the next one either.
            x.feedAll("for");
            Edge.due(x, x.order(), 1);
            placesAre(x, 2, 1, 3, 3, 3, 3);
        }
        // A shorter order forgets the words of a longer one.
        Calls x = Edge.behind(FIVE_MATCHES);
        x.feedAll("table diff for won met");
        x.order();
        x.feedAll("table");
        Edge.due(x, x.order(), 1);
        placesAre(x, 1, 1, 5, 5, 3, 3);
    }

    // ---- promise 26

    private static void reachIs(Calls x, int village, int least, int greatest) {
        Edge.due(x, x.reach(village, 0), least);
        Edge.due(x, x.reach(village, 1), greatest);
    }

    private static void sixOpenAtMost() {
        Calls x = new Calls();
        int[][] pairs = {{1, 2}, {3, 4}, {5, 1}, {2, 3}, {4, 5}, {1, 3}};
        for (int[] p : pairs) {
            x.match(p[0], p[1], 0);
        }
        // Three villages at least win in all of these; drawn, all five have something.
        reachIs(x, 0, 4, 6);
        x.match(0, 1, 0);
        for (int village = 0; village < 6; village++) {
            Edge.due(x, x.reach(village, 0), LARGE);
            Edge.due(x, x.reach(village, 1), LARGE);
        }
        // Closed, won or by another rule it is one less; mended it is open again.
        // With two for village 0, the twelve of the others put one of them ahead at least, and four at most.
        x.end(6, 21);
        reachIs(x, 0, 2, 5);
        x.mend(6, 0, 20);
        Edge.due(x, x.reach(0, 0), LARGE);
        x.feedAll("game 20;");
        x.rule(0);
        reachIs(x, 0, 2, 5);
        x.rule(0);
        Edge.due(x, x.reach(0, 1), LARGE);
        x.dusk(6);
        reachIs(x, 0, 2, 5);
        // Those not open may be as many as there can be.
        for (int m = 7; m < 24; m++) {
            x.match(0, 1, 0);
            x.dusk(m);
        }
        Edge.letIn(x, x.reach(0, 0));
        Edge.letIn(Edge.behind(Scenes.BRIMFUL), Edge.behind(Scenes.BRIMFUL).reach(0, 0));
        Edge.refused(Scenes.SEVEN_OPEN, LARGE, y -> y.reach(0, 0));
        Edge.refused(Scenes.SEVEN_OPEN, LARGE, y -> y.reach(5, 1));
    }

    private static void wonByEitherOrDrawn() {
        Calls x = new Calls();
        x.match(0, 1, 0);
        reachIs(x, 0, 1, 2);
        reachIs(x, 1, 1, 2);
        // One is ahead of the others if it is won, and both if it is drawn.
        for (int village = 2; village < 6; village++) {
            reachIs(x, village, 2, 3);
        }
        // What its ends have brought so far does not matter.
        x.end(0, 20);
        reachIs(x, 1, 1, 2);
        x.end(0, 1);
        reachIs(x, 0, 1, 1);
        reachIs(x, 1, 2, 2);
        reachIs(x, 2, 2, 2);
        // Six times the same two: up to twelve for one of them.
        Calls six = new Calls();
        for (int m = 0; m < 6; m++) {
            six.match(4, 5, 2);
        }
        for (int m = 6; m < 11; m++) {
            six.match(0, 4, 0);
            six.end(m, 30);
        }
        reachIs(six, 0, 1, 2);
        reachIs(six, 4, 1, 3);
        reachIs(six, 5, 1, 3);
        reachIs(six, 1, 3, 4);
        six.match(0, 4, 0);
        six.end(11, 30);
        // With twelve village 0 cannot be passed, but reached.
        reachIs(six, 0, 1, 1);
        reachIs(six, 4, 1, 3);
        six.match(0, 4, 0);
        six.end(12, 30);
        reachIs(six, 4, 2, 3);
    }

    private static void byTableAlone() {
        Calls x = new Calls();
        FIVE_MATCHES.play(x);
        for (String order : new String[] {"table", "diff", "won", "for table", "met diff"}) {
            x.feedAll(order);
            Edge.letIn(x, x.order());
            // None is open: the places by table.
            int[] places = {1, 1, 5, 5, 3, 3};
            for (int village = 0; village < 6; village++) {
                reachIs(x, village, places[village], places[village]);
            }
        }
        x.match(0, 1, 0);
        reachIs(x, 0, 1, 2);
        reachIs(x, 1, 1, 2);
        reachIs(x, 4, 3, 3);
        // What is tried does not stay.
        standingIs(x, 0, 3, 2, 0, 0, 2, 0, 4);
        Edge.due(x, x.count(5), 1);
        Edge.due(x, x.about(5, 7), 0);
    }

    /** Closed matches that give each village its table: those won 2, and those drawn by two that need one more. */
    private static Calls withTables(int... tables) {
        Calls x = new Calls();
        int single = -1;
        for (int village = 0; village < 6; village++) {
            for (int won = 0; won < tables[village] / 2; won++) {
                play(x, village, (village + 1) % 6, 1);
            }
            if (tables[village] % 2 == 1 && single < 0) {
                single = village;
            } else if (tables[village] % 2 == 1) {
                play(x, single, village, 0);
                single = -1;
            }
        }
        return x;
    }

    /** Nobody is ahead of village 5, if each of the others gets just what that one way gives it: not one point more. */
    private static void onlyThatWay(int[][] open, int way) {
        int[] gained = new int[6];
        int rest = way;
        for (int[] pair : open) {
            gained[pair[0]] += rest % 3;
            gained[pair[1]] += 2 - rest % 3;
            rest /= 3;
        }
        int top = 6;
        int[] tables = new int[6];
        for (int village = 0; village < 6; village++) {
            tables[village] = top - gained[village];
        }
        Calls x = withTables(tables);
        for (int[] pair : open) {
            x.match(pair[0], pair[1], 0);
        }
        Edge.due(x, x.reach(5, 0), 1);
    }

    private static void overAllWays() {
        // In a row of matches what each village gets tells how each of them went: no other way does.
        int[][] row = {{0, 1}, {1, 2}, {2, 3}, {3, 4}};
        for (int way = 0; way < 81; way++) {
            onlyThatWay(row, way);
        }
        int[][] six = {{1, 0}, {3, 4}, {4, 3}, {0, 1}, {1, 2}, {3, 2}};
        for (int way = 0; way < 729; way++) {
            onlyThatWay(six, way);
        }
    }

    private static void leastAndGreatest() {
        // Behind all the others whatever comes, and ahead of them all.
        Calls last = withTables(4, 2, 2, 2, 2, 0);
        reachIs(last, 5, 6, 6);
        reachIs(last, 0, 1, 1);
        last.match(1, 2, 0);
        reachIs(last, 5, 6, 6);
        reachIs(last, 0, 1, 1);
        reachIs(last, 3, 3, 4);
        Calls bare = new Calls();
        for (int village = 0; village < 6; village++) {
            reachIs(bare, village, 1, 1);
        }
        Calls x = new Calls();
        for (int village = 0; village < 6; village++) {
            x.match(village, (village + 1) % 6, 0);
        }
        for (int village = 0; village < 6; village++) {
            reachIs(x, village, 1, 6);
        }
    }

    private static void reachRefused() {
        for (Edge.Run scene : new Edge.Run[] {Scenes.BARE, Scenes.SOME, Scenes.BRIMFUL}) {
            Edge.bounds(scene, 0, 5, UNKNOWN, (x, n) -> x.reach(n, 0));
            Edge.bounds(scene, 0, 1, OUTSIDE, (x, n) -> x.reach(5, n));
        }
        Edge.outOf(Scenes.SEVEN_OPEN, 0, 5, UNKNOWN, (x, n) -> x.reach(n, 0));
        Edge.outOf(Scenes.SEVEN_OPEN, 0, 1, OUTSIDE, (x, n) -> x.reach(0, n));
        Edge.refused(Scenes.SEVEN_OPEN, UNKNOWN, x -> x.reach(6, 2));
        Edge.refused(Scenes.SEVEN_OPEN, UNKNOWN, x -> x.reach(-1, -1));
        Edge.refused(Scenes.SOME, UNKNOWN, x -> x.reach(6, 2));
    }
}
