/** Runs of calls behind which the edges are looked at: a bare book, one with something of each kind, and full ones. */
final class Scenes {
    static final Edge.Run BARE = x -> { };

    /** Irons: 0 and 3 of side 0, 2 of side 1, 1 a ringer, 4 off, 5 disputed, 6 a ringer off. */
    static final Edge.Run SOME = x -> {
        someIrons(x);
        someRules(x);
        x.act(0, 1, 1, 2, 3, 4, 50);
        x.act(1, 2, 50, 4, 3, 2, 1);
        someMatches(x);
        // The latest reading has a fault, and the text that is left is sound.
        x.feedAll("table won table");
        x.order();
        x.feedAll("near 3; most 4;");
    };

    /** Twelve irons, 100 bytes, 24 matches of which 6 are open, 40 ends of match 0, five words. */
    static final Edge.Run BRIMFUL = x -> {
        brimfulBook(x);
        for (int m = 6; m < 24; m++) {
            x.dusk(m);
        }
        brimfulClay(x);
        brimfulText(x);
    };

    /** As BRIMFUL, with a seventh match open. */
    static final Edge.Run SEVEN_OPEN = x -> {
        brimfulBook(x);
        for (int m = 7; m < 24; m++) {
            x.dusk(m);
        }
        brimfulClay(x);
        brimfulText(x);
    };

    private Scenes() {
    }

    private static void someIrons(Calls x) {
        x.iron(0, 100, 0, 30, 15, 0, true);
        x.iron(1, 3, 4, 30, 15, 1, true);
        x.iron(1, 0, -130, 20, 9, 2, false);
        x.iron(0, 110, 10, 25, 12, 9, true);
        x.iron(1, 200, 200, 30, 15, 0, true);
        x.iron(0, -300, 5, 40, 15, 3, false);
        x.iron(0, 0, 1, 30, 15, 0, true);
        x.measure(0, 0, 690, 720);
        x.measure(0, 2, 700, 730);
        x.measure(2, 1, 0, 9999);
        x.measure(4, 0, 5, 6);
        x.measure(5, 0, 10, 20);
        x.measure(5, 1, 21, 30);
        x.off(4);
        x.off(6);
    }

    private static void someRules(Calls x) {
        x.feedAll("game 11; down no; near 3;");
        x.rule(1);
        x.feedAll("cancel none; under no; ringer 3; measure 4; most 2; game 15;");
        x.rule(2);
        x.feedAll("table met diff");
        x.order();
    }

    /** Matches: 0 open with three ends, 1 won by ends, 2 drawn, 3 won at dusk, 4 open, 5 won with an end behind it. */
    private static void someMatches(Calls x) {
        x.match(0, 1, 0);
        x.end(0, 5);
        x.end(0, -7);
        x.end(0, 0);
        x.match(1, 2, 1);
        x.end(1, -15);
        x.match(2, 0, 2);
        x.end(2, 4);
        x.end(2, -4);
        x.dusk(2);
        x.match(3, 4, 2);
        x.end(3, 1);
        x.dusk(3);
        x.match(5, 0, 1);
        x.match(4, 5, 2);
        x.end(5, 3);
        x.end(5, 2);
        x.mend(5, 0, 30);
    }

    private static void brimfulBook(Calls x) {
        x.feedAll("met for diff won table");
        x.order();
        for (int m = 0; m < 24; m++) {
            x.match(m % 6, (m + 1 + m / 6) % 6, m % 3);
        }
        for (int e = 0; e < 40; e++) {
            x.end(0, e % 3 - 1);
        }
        for (int m = 12; m < 20; m++) {
            x.end(m, m % 5 - 2);
        }
    }

    private static void brimfulClay(Calls x) {
        for (int i = 0; i < 12; i++) {
            x.iron(i % 2, i < 4 ? i : 40 * i, 7 * i, 30, 25, i % 10, i % 3 != 0);
        }
        for (int man = 0; man < 3; man++) {
            x.measure(5, man, 10 * man, 500 + man);
            x.measure(6, man, 20 * man, 20 * man + 30);
            x.measure(11, man, 4000, 4000);
        }
        x.off(3);
        x.off(11);
    }

    private static void brimfulText(Calls x) {
        String all = "ringer 9;near 8;most 7;measure 6;game 50;cancel none;down no;under no;";
        x.feedAll(all + " ".repeat(100 - all.length()));
    }
}
