/** Promises 19 to 26: match, end, mend, dusk, about, standing, order, reach. */
public final class BookTest {
    public static void main(String[] args) {
        matchBounds();
        endBounds();
        fortyEnds();
        wonByEnds();
        wonByTwoRules();
        alikeAtTheGame();
        mended();
        mendBounds();
        closedAtDusk();
        rulesAsTheyAreNow();
        standings();
        orderFaults();
        longOrders();
        places();
        metAmongLikes();
        reached();
        reachBounds();
        Due.finish();
    }

    private static void aboutIs(QuoitBook x, int m, int ends, int counting, int home, int away, int state) {
        Due.due("about(" + m + ", 3)", x.about(m, 3), ends);
        Due.due("about(" + m + ", 4)", x.about(m, 4), counting);
        Due.due("about(" + m + ", 5)", x.about(m, 5), home);
        Due.due("about(" + m + ", 6)", x.about(m, 6), away);
        Due.due("about(" + m + ", 7)", x.about(m, 7), state);
    }

    private static void matchBounds() {
        QuoitBook x = new QuoitBook();
        Due.due("unknown", x.match(6, 0, 0), QuoitBook.UNKNOWN);
        Due.due("unknown", x.match(0, -1, 0), QuoitBook.UNKNOWN);
        Due.due("unknown ahead of outside", x.match(6, 6, 3), QuoitBook.UNKNOWN);
        Due.due("outside", x.match(0, 0, 0), QuoitBook.OUTSIDE);
        Due.due("outside", x.match(0, 1, 3), QuoitBook.OUTSIDE);
        Due.due("outside", x.match(0, 1, -1), QuoitBook.OUTSIDE);
        for (int m = 0; m < 24; m++) {
            Due.due("match " + m, x.match(m % 6, (m + 1 + m / 6) % 6, m % 3), m);
        }
        Due.due("full", x.match(0, 1, 0), QuoitBook.FULL);
        Due.due("outside ahead of full", x.match(1, 1, 0), QuoitBook.OUTSIDE);
        Due.due("count(4)", x.count(4), 24);
        Due.due("home", x.about(23, 0), 5);
        Due.due("away", x.about(23, 1), 3);
        Due.due("mode", x.about(23, 2), 2);
        Due.due("unknown", x.about(24, 0), QuoitBook.UNKNOWN);
        Due.due("unknown ahead of outside", x.about(-1, 8), QuoitBook.UNKNOWN);
        Due.due("outside", x.about(0, 8), QuoitBook.OUTSIDE);
        Due.due("outside", x.about(0, -1), QuoitBook.OUTSIDE);
    }

    private static void endBounds() {
        QuoitBook x = new QuoitBook();
        Due.due("unknown ahead of outside", x.end(0, 100), QuoitBook.UNKNOWN);
        x.match(0, 1, 0);
        Due.due("unknown", x.end(1, 0), QuoitBook.UNKNOWN);
        Due.due("outside", x.end(0, 100), QuoitBook.OUTSIDE);
        Due.due("outside", x.end(0, -100), QuoitBook.OUTSIDE);
        aboutIs(x, 0, 0, 0, 0, 0, 0);
        Due.due("end", x.end(0, 99), 0);
        aboutIs(x, 0, 1, 1, 99, 0, 1);
        Due.due("outside ahead of not", x.end(0, 100), QuoitBook.OUTSIDE);
        Due.due("not open", x.end(0, 0), QuoitBook.NOT);
        x.match(0, 1, 0);
        Due.due("end", x.end(1, -99), 0);
        aboutIs(x, 1, 1, 1, 0, 99, 2);
    }

    private static void fortyEnds() {
        QuoitBook x = new QuoitBook();
        x.match(0, 1, 0);
        for (int e = 0; e < 40; e++) {
            Due.due("end " + e, x.end(0, e == 0 ? 20 : e == 1 ? -20 : 0), e);
        }
        aboutIs(x, 0, 40, 40, 20, 20, 0);
        Due.due("full", x.end(0, 0), QuoitBook.FULL);
        Due.due("outside ahead of full", x.end(0, 100), QuoitBook.OUTSIDE);
        x.dusk(0);
        Due.due("not ahead of full", x.end(0, 0), QuoitBook.NOT);
        aboutIs(x, 0, 40, 40, 20, 20, 3);
    }

    private static void wonByEnds() {
        QuoitBook x = new QuoitBook();
        Due.rule(x, 1, "game 11;", 1, -1);
        x.match(0, 1, 0);
        x.match(0, 1, 1);
        for (int m = 0; m < 2; m++) {
            x.end(m, 8);
            x.end(m, -5);
            Due.due("open", x.about(m, 7), 0);
            x.end(m, 3);
        }
        aboutIs(x, 0, 3, 3, 11, 5, 0);
        aboutIs(x, 1, 3, 3, 11, 5, 1);
        x.end(0, -15);
        aboutIs(x, 0, 4, 4, 11, 20, 0);
        x.end(0, -1);
        aboutIs(x, 0, 5, 5, 11, 21, 2);
    }

    private static void wonByTwoRules() {
        QuoitBook x = new QuoitBook();
        Due.rule(x, 1, "game 11;", 1, -1);
        x.match(0, 1, 2);
        x.end(0, 15);
        aboutIs(x, 0, 1, 1, 15, 0, 0);
        x.end(0, 0);
        aboutIs(x, 0, 2, 2, 15, 0, 1);
        x.match(1, 0, 2);
        x.end(1, -11);
        aboutIs(x, 1, 1, 1, 0, 11, 2);
    }

    private static void alikeAtTheGame() {
        QuoitBook x = new QuoitBook();
        Due.rule(x, 0, "game 10;", 1, -1);
        x.match(0, 1, 2);
        x.end(0, 9);
        x.end(0, -12);
        x.end(0, 3);
        aboutIs(x, 0, 3, 3, 12, 12, 0);
        x.end(0, 1);
        aboutIs(x, 0, 4, 4, 13, 12, 0);
        x.end(0, -1);
        aboutIs(x, 0, 5, 5, 13, 13, 0);
        x.end(0, 0);
        x.end(0, -2);
        aboutIs(x, 0, 7, 7, 13, 15, 2);
    }

    private static void mended() {
        QuoitBook x = new QuoitBook();
        x.match(0, 1, 0);
        x.end(0, 10);
        x.end(0, 5);
        x.end(0, 6);
        aboutIs(x, 0, 3, 3, 21, 0, 1);
        Due.due("mend", x.mend(0, 2, 5), 6);
        aboutIs(x, 0, 3, 3, 20, 0, 0);
        Due.due("mend", x.mend(0, 0, -21), 10);
        aboutIs(x, 0, 3, 1, 0, 21, 2);
        Due.due("an end that does not count", x.mend(0, 2, 99), 5);
        aboutIs(x, 0, 3, 1, 0, 21, 2);
        Due.due("mend", x.mend(0, 0, 0), -21);
        aboutIs(x, 0, 3, 3, 104, 0, 1);
    }

    private static void mendBounds() {
        QuoitBook x = new QuoitBook();
        Due.due("unknown match", x.mend(0, 0, 0), QuoitBook.UNKNOWN);
        x.match(0, 1, 0);
        Due.due("unknown end", x.mend(0, 0, 0), QuoitBook.UNKNOWN);
        x.end(0, 7);
        Due.due("unknown end", x.mend(0, -1, 0), QuoitBook.UNKNOWN);
        Due.due("unknown ahead of outside", x.mend(0, 1, 100), QuoitBook.UNKNOWN);
        Due.due("outside", x.mend(0, 0, 100), QuoitBook.OUTSIDE);
        Due.due("outside", x.mend(0, 0, -100), QuoitBook.OUTSIDE);
        Due.due("it was so", x.mend(0, 0, 99), 7);
    }

    private static void closedAtDusk() {
        QuoitBook x = new QuoitBook();
        Due.due("unknown", x.dusk(0), QuoitBook.UNKNOWN);
        x.match(0, 1, 0);
        Due.due("dusk", x.dusk(0), 1);
        aboutIs(x, 0, 0, 0, 0, 0, 3);
        Due.due("not open", x.dusk(0), QuoitBook.NOT);
        Due.due("not open", x.end(0, 1), QuoitBook.NOT);
        x.match(0, 1, 0);
        x.end(1, 3);
        x.end(1, -4);
        Due.due("dusk", x.dusk(1), 1);
        aboutIs(x, 1, 2, 2, 3, 4, 2);
        x.mend(1, 0, 5);
        aboutIs(x, 1, 2, 2, 5, 4, 1);
        x.mend(1, 0, 4);
        aboutIs(x, 1, 2, 2, 4, 4, 3);
        x.mend(1, 0, -30);
        aboutIs(x, 1, 2, 1, 0, 30, 2);
        x.mend(1, 0, 4);
        aboutIs(x, 1, 2, 2, 4, 4, 3);
        x.match(0, 1, 0);
        x.end(2, 21);
        Due.due("won by ends", x.dusk(2), QuoitBook.NOT);
        x.mend(2, 0, 20);
        Due.due("open again", x.about(2, 7), 0);
    }

    private static void rulesAsTheyAreNow() {
        QuoitBook x = new QuoitBook();
        x.match(0, 1, 0);
        x.end(0, 10);
        x.end(0, -11);
        Due.due("open", x.count(5), 1);
        Due.rule(x, 0, "game 10;", 1, -1);
        aboutIs(x, 0, 2, 1, 10, 0, 1);
        Due.due("open", x.count(5), 0);
        Due.rule(x, 0, "game 11;", 1, -1);
        aboutIs(x, 0, 2, 2, 10, 11, 2);
        Due.rule(x, 0, "", 0, -1);
        aboutIs(x, 0, 2, 2, 10, 11, 0);
    }

    private static void standingIs(QuoitBook x, int village, int... due) {
        for (int what = 0; what < due.length; what++) {
            Due.due("standing(" + village + ", " + what + ")", x.standing(village, what), due[what]);
        }
    }

    private static void standings() {
        QuoitBook x = new QuoitBook();
        Due.due("unknown", x.standing(6, 8), QuoitBook.UNKNOWN);
        Due.due("unknown", x.standing(-1, 0), QuoitBook.UNKNOWN);
        Due.due("outside", x.standing(0, 8), QuoitBook.OUTSIDE);
        Due.due("outside", x.standing(0, -1), QuoitBook.OUTSIDE);
        x.match(0, 1, 0);
        x.match(1, 2, 0);
        x.match(2, 0, 0);
        x.match(0, 1, 0);
        x.end(0, 21);
        x.end(1, 5);
        x.end(1, -5);
        x.dusk(1);
        x.end(2, -3);
        x.dusk(2);
        x.end(3, 7);
        x.end(3, -2);
        standingIs(x, 0, 3, 2, 0, 0, 31, 2, 4, 1);
        standingIs(x, 1, 3, 0, 1, 1, 7, 33, 1, 2);
        standingIs(x, 2, 2, 0, 1, 1, 5, 8, 1, 2);
        standingIs(x, 3, 0, 0, 0, 0, 0, 0, 0, 4);
        Due.order(x, "table diff", 2, -1);
        Due.due("place", x.standing(1, 7), 3);
        Due.due("place", x.standing(2, 7), 2);
        Due.due("place", x.standing(5, 7), 4);
    }

    private static void orderFaults() {
        QuoitBook x = new QuoitBook();
        Due.order(x, "met for diff won table", 5, -1);
        Due.due("words", x.count(7), 5);
        Due.order(x, "", -11, 0);
        Due.order(x, "   ", -11, 3);
        Due.order(x, "table;", -11, 5);
        Due.order(x, "tables", -11, 0);
        Due.order(x, "table, won", -11, 5);
        Due.order(x, "tablewon", -11, 0);
        Due.order(x, "table 1", -11, 6);
        Due.order(x, "table ringer", -11, 6);
        Due.order(x, "table  table", -13, 7);
        Due.order(x, "won table won x", -13, 10);
        Due.order(x, "met for diff won table for", -13, 23);
        Due.order(x, "met for diff won table fox", -11, 23);
        Due.due("the order is as it was", x.count(7), 5);
        Due.order(x, "  won  ", 1, -1);
        Due.due("words", x.count(7), 1);
        Due.order(x, "x", -11, 0);
        Due.feed(x, "near 2;");
        Due.due("rule", x.rule(0), 1);
        Due.due("fault() is of the latest", x.fault(), QuoitBook.NONE);
    }

    private static void longOrders() {
        QuoitBook x = new QuoitBook();
        Due.order(x, "won" + " ".repeat(57), 1, -1);
        Due.order(x, "won" + " ".repeat(58), -11, 60);
        Due.order(x, " ".repeat(61), -11, 60);
        Due.order(x, " ".repeat(60), -11, 60);
        Due.order(x, " ".repeat(57) + "won", 1, -1);
        Due.order(x, " ".repeat(58) + "won", -11, 60);
        Due.order(x, "won" + " ".repeat(57) + "won", -11, 60);
        Due.order(x, "won won" + " ".repeat(60), -13, 4);
        Due.due("words", x.count(7), 1);
    }

    private static void places() {
        QuoitBook x = new QuoitBook();
        // 0 wins twice by little, 1 once by much with two drawn, 2 loses all.
        play(x, 0, 2, 1);
        play(x, 0, 3, 1);
        play(x, 1, 2, 20);
        play(x, 1, 4, 0);
        play(x, 1, 5, 0);
        placesAre(x, 1, 1, 5, 5, 3, 3);
        Due.order(x, "won", 1, -1);
        placesAre(x, 1, 2, 3, 3, 3, 3);
        Due.order(x, "diff", 1, -1);
        placesAre(x, 2, 1, 6, 5, 3, 3);
        Due.order(x, "for", 1, -1);
        placesAre(x, 2, 1, 3, 3, 3, 3);
        Due.order(x, "table for", 2, -1);
        placesAre(x, 2, 1, 5, 5, 3, 3);
        Due.order(x, "table won", 2, -1);
        placesAre(x, 1, 2, 5, 5, 3, 3);
        Due.order(x, "met", 1, -1);
        placesAre(x, 1, 1, 5, 5, 3, 3);
    }

    private static void play(QuoitBook x, int home, int away, int score) {
        int m = x.match(home, away, 0);
        x.end(m, score);
        x.dusk(m);
    }

    private static void placesAre(QuoitBook x, int... due) {
        for (int village = 0; village < due.length; village++) {
            Due.due("place of " + village, x.standing(village, 7), due[village]);
        }
    }

    private static void metAmongLikes() {
        QuoitBook x = new QuoitBook();
        // 0, 1, 2 have 4 each; among them 0 beats 1 and 1 beats 2; 3 gives the rest.
        play(x, 0, 1, 1);
        play(x, 1, 2, 1);
        play(x, 0, 3, 2);
        play(x, 1, 3, 3);
        play(x, 2, 3, 9);
        play(x, 2, 3, 9);
        Due.order(x, "table met", 2, -1);
        placesAre(x, 1, 1, 3, 4, 4, 4);
        Due.order(x, "table met for", 3, -1);
        placesAre(x, 2, 1, 3, 4, 4, 4);
        Due.order(x, "table for met", 3, -1);
        placesAre(x, 3, 2, 1, 4, 4, 4);
        Due.order(x, "met table", 2, -1);
        placesAre(x, 1, 1, 1, 4, 4, 4);
        Due.order(x, "won met diff", 3, -1);
        placesAre(x, 1, 1, 3, 6, 4, 4);
    }

    private static void reached() {
        QuoitBook x = new QuoitBook();
        x.match(0, 1, 0);
        reachIs(x, 0, 1, 2);
        reachIs(x, 1, 1, 2);
        reachIs(x, 2, 2, 3);
        x = new QuoitBook();
        play(x, 0, 1, 5);
        play(x, 0, 2, 5);
        x.match(1, 2, 0);
        // 1 and 2 reach two at most: 0 stays first with four.
        reachIs(x, 0, 1, 1);
        reachIs(x, 1, 2, 3);
        reachIs(x, 2, 2, 3);
        reachIs(x, 3, 3, 4);
        x.match(3, 1, 0);
        x.match(3, 2, 0);
        reachIs(x, 0, 1, 1);
        reachIs(x, 3, 1, 4);
        reachIs(x, 1, 1, 4);
        reachIs(x, 5, 4, 5);
        Due.order(x, "diff", 1, -1);
        reachIs(x, 3, 1, 4);
    }

    private static void reachIs(QuoitBook x, int village, int least, int greatest) {
        Due.due("reach(" + village + ", 0)", x.reach(village, 0), least);
        Due.due("reach(" + village + ", 1)", x.reach(village, 1), greatest);
    }

    private static void reachBounds() {
        QuoitBook x = new QuoitBook();
        for (int m = 0; m < 6; m++) {
            x.match(m, (m + 1) % 6, 0);
        }
        reachIs(x, 0, 1, 6);
        x.match(0, 3, 0);
        Due.due("large", x.reach(1, 0), QuoitBook.LARGE);
        Due.due("outside ahead of large", x.reach(1, 2), QuoitBook.OUTSIDE);
        Due.due("outside", x.reach(1, -1), QuoitBook.OUTSIDE);
        Due.due("unknown", x.reach(6, 2), QuoitBook.UNKNOWN);
        Due.due("unknown", x.reach(-1, 0), QuoitBook.UNKNOWN);
        x.dusk(6);
        reachIs(x, 1, 1, 6);
    }
}
