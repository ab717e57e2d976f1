/** Edges of part 1, THE CLAY: promises 1 to 8. */
final class ClayEdges {
    private static final int NONE = Edge.NONE;
    private static final int UNKNOWN = Edge.UNKNOWN;
    private static final int OUTSIDE = Edge.OUTSIDE;
    private static final int NOT = Edge.NOT;
    private static final int FULL = Edge.FULL;

    private ClayEdges() {
    }

    static void run() {
        Edge.test(1, "No IRONS, MATCHES;", ClayEdges::newHasNoIronsAndMatches);
        Edge.test(1, "RULES, ACTS, THE ORDER as at first.", ClayEdges::newIsAsAtFirst);
        Edge.test(1, "A new object", ClayEdges::newIsApartFromOthers);
        Edge.test(2, "THE CLAY is bare: how many IRONS there were.", ClayEdges::rakeTellsHowMany);
        Edge.test(2, "THE CLAY is bare", ClayEdges::rakeLeavesNothing);
        Edge.test(2, "THE CLAY is bare", ClayEdges::rakeLeavesTheRest);
        Edge.test(3, "An IRON comes: its number.", ClayEdges::ironsHaveNumbersFrom0On);
        Edge.test(3, "What has a number has it from 0 on, as it comes.", ClayEdges::ironsHaveNumbersFrom0On);
        Edge.test(3, "of a SIDE (0, 1)", ClayEdges::sideIs0Or1);
        Edge.test(3, "THE CLAY has places (x, y), each -600 .. 600", ClayEdges::ironsPlaceIs600AtMost);
        Edge.test(3, "at a place (its middle)", ClayEdges::placeIsTheMiddle);
        Edge.test(3, "with a SIZE (2 .. 60)", ClayEdges::sizeIs2To60);
        Edge.test(3, "a HOLE (1 .. SIZE less 1)", ClayEdges::holeIs1ToSizeLess1);
        Edge.test(3, "a LIFT (0 .. 9)", ClayEdges::liftIs0To9);
        Edge.test(3, "its hill UP or not.", ClayEdges::hillIsUpOrNot);
        Edge.test(3, "IRONS (12 at most on it, those taken off with them) come one by one:", ClayEdges::twelveAtMost);
        Edge.test(3, "OUTSIDE, FULL.", ClayEdges::ironOutsideAheadOfFull);
        Edge.test(4, "An IRON is KNOCKED to a place: 1.", ClayEdges::knockedToEachCorner);
        Edge.test(4, "THE CLAY has places (x, y), each -600 .. 600", ClayEdges::knockedTo600AtMost);
        Edge.test(4, "An IRON may be KNOCKED to another place (when it came does not change)", ClayEdges::knockedKeepsItsTime);
        Edge.test(4, "UNKNOWN, OUTSIDE; NOT: it is OFF.", ClayEdges::knockRefused);
        Edge.test(4, "(MEASURES of it go.)", ClayEdges::knockTakesMeasures);
        Edge.test(5, "An IRON is taken OFF: 1.", ClayEdges::takenOff);
        Edge.test(5, "and be taken OFF.", ClayEdges::takenOff);
        Edge.test(5, "UNKNOWN; NOT: it is.", ClayEdges::offRefused);
        Edge.test(6, "Of an IRON: what = 0 SIDE, 1 x, 2 y, 3 SQUARE,", ClayEdges::toldOfPlaces);
        Edge.test(6, "SQUARE of an IRON: x x and y y.", ClayEdges::toldOfPlaces);
        Edge.test(6, "and THE PIN at (0, 0).", ClayEdges::onThePin);
        Edge.test(6, "4 whether it is a RINGER (1, 0),", ClayEdges::ringerBelowHoleSquared);
        Edge.test(6, "A RINGER: SQUARE below HOLE squared.", ClayEdges::ringerBelowHoleSquared);
        Edge.test(6, "NEARNESS of an IRON that is no RINGER: the root of SQUARE less SIZE (0, if that is below 0), and LIFT:",
                ClayEdges::nearnessFrom0On);
        Edge.test(6, "5 NEARNESS, cut (NONE: a RINGER),", ClayEdges::nearnessIsCut);
        Edge.test(6, "6 whether it is OFF,", ClayEdges::toldOfOff);
        Edge.test(6, "7 those that lie ON it, as a SET (bit k for IRON k), 8 those on which it lies,", ClayEdges::setsOfTwelve);
        Edge.test(6, "b lies ON a, if it came later, both are there,", ClayEdges::onOnlyIfLaterAndThere);
        Edge.test(6, "and the square of the distance of their middles is below the square of both SIZES together.",
                ClayEdges::onBelowBothSizes);
        Edge.test(6, "9 whether its hill is UP.", ClayEdges::hillIsUpOrNot);
        Edge.test(6, "UNKNOWN, OUTSIDE.", ClayEdges::toldRefused);
        Edge.test(7, "NEARNESS of IRON i and k (-9999 .. 9999) held against that of j:", ClayEdges::nearerWithKInBounds);
        Edge.test(7, "-1 less, 0 the same, 1 more.", ClayEdges::nearerLessSameMore);
        Edge.test(7, "a number that need not be whole, and is held exactly.", ClayEdges::nearerIsExact);
        Edge.test(7, "NEARNESS of IRON i", ClayEdges::nearnessWhateverMenTold);
        Edge.test(7, "UNKNOWN, OUTSIDE; NOT: one of them is a RINGER.", ClayEdges::nearerRefused);
        Edge.test(8, "How many: 0 IRONS, 1 OFF, 2 RINGERS (not OFF) of SIDE 0, 3 of SIDE 1, 4 MATCHES, 5 OPEN ones, "
                + "6 bytes of THE TEXT, 7 words of THE ORDER, 8 IRONS with a span, 9 DISPUTED ones.", ClayEdges::countsOfAll);
        Edge.test(8, "2 RINGERS (not OFF) of SIDE 0, 3 of SIDE 1", ClayEdges::ringersNotOff);
        Edge.test(8, "8 IRONS with a span, 9 DISPUTED ones", ClayEdges::spansOfIronsOff);
        Edge.test(8, "OUTSIDE.", ClayEdges::countRefused);
    }

    private static int plain(Calls x, int side, int atX, int atY) {
        return x.iron(side, atX, atY, 30, 15, 0, true);
    }

    // ---- promise 1

    private static void newHasNoIronsAndMatches() {
        Calls x = new Calls();
        int[] counts = {0, 0, 0, 0, 0, 0, 0, 1, 0, 0};
        for (int what = 0; what < counts.length; what++) {
            Edge.due(x, x.count(what), counts[what]);
        }
        Edge.due(x, x.told(0, 0), UNKNOWN);
        Edge.due(x, x.known(0, 0), UNKNOWN);
        Edge.due(x, x.nearer(0, 0, 0), UNKNOWN);
        Edge.due(x, x.about(0, 0), UNKNOWN);
        Edge.due(x, x.mend(0, 0, 0), UNKNOWN);
        Edge.due(x, x.fault(), NONE);
        for (int village = 0; village < 6; village++) {
            for (int what = 0; what < 6; what++) {
                Edge.due(x, x.score(village, what), 0);
            }
            for (int what = 0; what < 3; what++) {
                Edge.due(x, x.sure(village, what), what == 2 ? 1 : 0);
            }
            for (int what = 0; what < 8; what++) {
                Edge.due(x, x.standing(village, what), what == 7 ? 1 : 0);
            }
            Edge.due(x, x.reach(village, 0), 1);
            Edge.due(x, x.reach(village, 1), 1);
        }
        Edge.due(x, x.rake(), 0);
    }

    private static void newIsAsAtFirst() {
        Calls x = new Calls();
        int[] says = {2, 1, 12, 0, 21, 1, 1, 1};
        for (int village = 0; village < 6; village++) {
            for (int what = 0; what < says.length; what++) {
                Edge.due(x, x.says(village, what), says[what]);
            }
        }
        Edge.due(x, x.count(7), 1);
        LastEndEdges.actsAreAsAtFirst();
    }

    private static void newIsApartFromOthers() {
        Calls used = Edge.behind(Scenes.BRIMFUL);
        Edge.due(used, used.count(0), 12);
        Edge.unchanged(Scenes.BARE, x -> Edge.behind(Scenes.BRIMFUL).act(0, 0, 60, 0, 0, 0, 0));
        Edge.due(used, used.count(4), 24);
    }

    // ---- promise 2

    private static void rakeTellsHowMany() {
        Calls x = new Calls();
        Edge.due(x, x.rake(), 0);
        for (int irons = 1; irons <= 12; irons++) {
            for (int i = 0; i < irons; i++) {
                plain(x, i % 2, 10 * i, 0);
            }
            if (irons % 2 == 0) {
                x.off(irons - 1);
            }
            Edge.due(x, x.rake(), irons);
            Edge.due(x, x.rake(), 0);
        }
    }

    private static void rakeLeavesNothing() {
        Calls x = Edge.behind(Scenes.BRIMFUL);
        Edge.due(x, x.rake(), 12);
        for (int what : new int[] {0, 1, 2, 3, 8, 9}) {
            Edge.due(x, x.count(what), 0);
        }
        for (int i = 0; i < 12; i++) {
            Edge.due(x, x.told(i, 0), UNKNOWN);
            Edge.due(x, x.off(i), UNKNOWN);
            Edge.due(x, x.knock(i, 0, 0), UNKNOWN);
            Edge.due(x, x.measure(i, 0, 0, 0), UNKNOWN);
            Edge.due(x, x.known(i, 0), UNKNOWN);
        }
        Edge.due(x, x.score(0, 3), 0);
        // Twelve more can come, and nothing of those before clings to their numbers.
        for (int i = 0; i < 12; i++) {
            Edge.due(x, x.iron(0, 50 * i, 300, 9, 5, 0, false), i);
            Edge.due(x, x.told(i, 6), 0);
            Edge.due(x, x.known(i, 0), NONE);
            Edge.due(x, x.known(i, 1), NONE);
            Edge.due(x, x.told(i, 7) + x.told(i, 8), 0);
        }
        Edge.due(x, plain(x, 0, 0, 0), FULL);
    }

    private static void rakeLeavesTheRest() {
        Edge.Run raked = x -> {
            Scenes.SOME.play(x);
            x.rake();
        };
        Calls x = Edge.behind(raked);
        Edge.due(x, x.count(4), 6);
        Edge.due(x, x.count(5), 2);
        Edge.due(x, x.count(6), 15);
        Edge.due(x, x.count(7), 3);
        Edge.due(x, x.fault(), 10);
        Edge.due(x, x.says(1, 4), 11);
        Edge.due(x, x.about(0, 3), 3);
        Edge.due(x, x.win(1, 0, 0, 2, 0), 5);
        Edge.unchanged(raked, Calls::rake);
    }

    // ---- promise 3

    private static void ironsHaveNumbersFrom0On() {
        Calls x = new Calls();
        for (int i = 0; i < 12; i++) {
            Edge.due(x, plain(x, 0, 0, 0), i);
            x.off(i);
        }
        x.rake();
        Edge.due(x, plain(x, 1, 0, 0), 0);
        Edge.due(x, plain(x, 2, 0, 0), OUTSIDE);
        Edge.due(x, plain(x, 1, 0, 0), 1);
    }

    private static void ironBounds(int low, int high, Edge.AskWith call) {
        Edge.bounds(Scenes.BARE, low, high, OUTSIDE, call);
        Edge.bounds(Scenes.SOME, low, high, OUTSIDE, call);
    }

    private static void sideIs0Or1() {
        ironBounds(0, 1, (x, n) -> plain(x, n, 0, 0));
        Calls x = new Calls();
        plain(x, 0, 0, 0);
        plain(x, 1, 0, 0);
        Edge.due(x, x.told(0, 0), 0);
        Edge.due(x, x.told(1, 0), 1);
    }

    private static void ironsPlaceIs600AtMost() {
        ironBounds(-600, 600, (x, n) -> plain(x, 0, n, 0));
        ironBounds(-600, 600, (x, n) -> plain(x, 0, 0, n));
        ironBounds(-600, 600, (x, n) -> plain(x, 0, n, n));
        Edge.refused(Scenes.SOME, OUTSIDE, x -> plain(x, 0, 600, 601));
        Edge.refused(Scenes.SOME, OUTSIDE, x -> plain(x, 0, -601, -600));
    }

    private static void placeIsTheMiddle() {
        Calls x = new Calls();
        plain(x, 0, -600, 599);
        Edge.due(x, x.told(0, 1), -600);
        Edge.due(x, x.told(0, 2), 599);
    }

    private static void sizeIs2To60() {
        ironBounds(2, 60, (x, n) -> x.iron(0, 0, 0, n, 1, 0, true));
        Calls x = new Calls();
        x.iron(0, 100, 0, 2, 1, 0, true);
        x.iron(0, 100, 0, 60, 1, 0, true);
        Edge.due(x, x.told(0, 5), 98);
        Edge.due(x, x.told(1, 5), 40);
    }

    private static void holeIs1ToSizeLess1() {
        for (int size : new int[] {2, 3, 30, 59, 60}) {
            ironBounds(1, size - 1, (x, n) -> x.iron(0, 0, 0, size, n, 0, true));
        }
        for (int size = 2; size <= 60; size++) {
            int of = size;
            Edge.due(Scenes.BARE, 0, x -> x.iron(0, 0, 0, of, of - 1, 0, true));
            Edge.due(Scenes.BARE, OUTSIDE, x -> x.iron(0, 0, 0, of, of, 0, true));
            Edge.due(Scenes.BARE, OUTSIDE, x -> x.iron(0, 0, 0, of, 0, 0, true));
        }
        // A size out of its bounds lets no hole in.
        Edge.refused(Scenes.SOME, OUTSIDE, x -> x.iron(0, 0, 0, 1, 0, 0, true));
        Edge.refused(Scenes.SOME, OUTSIDE, x -> x.iron(0, 0, 0, 61, 60, 0, true));
        Edge.refused(Scenes.SOME, OUTSIDE, x -> x.iron(0, 0, 0, Integer.MIN_VALUE, Integer.MAX_VALUE, 0, true));
        Edge.refused(Scenes.SOME, OUTSIDE, x -> x.iron(0, 0, 0, Integer.MIN_VALUE, 1, 0, true));
    }

    private static void liftIs0To9() {
        ironBounds(0, 9, (x, n) -> x.iron(0, 100, 0, 30, 15, n, true));
        Calls x = new Calls();
        x.iron(0, 100, 0, 30, 15, 0, true);
        x.iron(0, 100, 0, 30, 15, 9, true);
        Edge.due(x, x.told(0, 5), 70);
        Edge.due(x, x.told(1, 5), 79);
    }

    private static void hillIsUpOrNot() {
        Calls x = new Calls();
        x.iron(0, 100, 0, 30, 15, 0, true);
        x.iron(0, 100, 0, 30, 15, 0, false);
        Edge.due(x, x.told(0, 9), 1);
        Edge.due(x, x.told(1, 9), 0);
        x.knock(0, 0, 0);
        x.off(1);
        Edge.due(x, x.told(0, 9), 1);
        Edge.due(x, x.told(1, 9), 0);
    }

    private static void twelveAtMost() {
        Calls x = new Calls();
        for (int i = 0; i < 11; i++) {
            plain(x, 0, 0, 0);
        }
        Edge.due(x, plain(x, 0, 0, 0), 11);
        Edge.due(x, plain(x, 0, 0, 0), FULL);
        for (int i = 0; i < 12; i++) {
            x.off(i);
            Edge.due(x, plain(x, 0, 0, 0), FULL);
        }
        Edge.due(x, x.count(0), 12);
        Edge.refused(Scenes.BRIMFUL, FULL, y -> plain(y, 0, 0, 0));
        Edge.refused(Scenes.BRIMFUL, FULL, y -> y.iron(1, 600, -600, 60, 59, 9, false));
    }

    private static void ironOutsideAheadOfFull() {
        Edge.Run full = Scenes.BRIMFUL;
        Edge.bounds(Scenes.BARE, 0, 1, OUTSIDE, (x, n) -> plain(x, n, 0, 0));
        Edge.refused(full, OUTSIDE, x -> plain(x, 2, 0, 0));
        Edge.refused(full, OUTSIDE, x -> plain(x, -1, 0, 0));
        Edge.refused(full, OUTSIDE, x -> plain(x, 0, 601, 0));
        Edge.refused(full, OUTSIDE, x -> plain(x, 0, 0, -601));
        Edge.refused(full, OUTSIDE, x -> x.iron(0, 0, 0, 1, 1, 0, true));
        Edge.refused(full, OUTSIDE, x -> x.iron(0, 0, 0, 61, 1, 0, true));
        Edge.refused(full, OUTSIDE, x -> x.iron(0, 0, 0, 30, 0, 0, true));
        Edge.refused(full, OUTSIDE, x -> x.iron(0, 0, 0, 30, 30, 0, true));
        Edge.refused(full, OUTSIDE, x -> x.iron(0, 0, 0, 30, 15, -1, true));
        Edge.refused(full, OUTSIDE, x -> x.iron(0, 0, 0, 30, 15, 10, true));
    }

    // ---- promise 4

    private static void knockedToEachCorner() {
        Calls x = new Calls();
        plain(x, 0, 0, 0);
        for (int atX : new int[] {-600, 0, 600}) {
            for (int atY : new int[] {-600, 0, 600}) {
                Edge.due(x, x.knock(0, atX, atY), 1);
                Edge.due(x, x.told(0, 1), atX);
                Edge.due(x, x.told(0, 2), atY);
                // To the place where it lies already.
                Edge.due(x, x.knock(0, atX, atY), 1);
            }
        }
    }

    private static void knockedTo600AtMost() {
        for (int i : new int[] {0, 1, 2, 3, 5}) {
            Edge.bounds(Scenes.SOME, -600, 600, OUTSIDE, (x, n) -> x.knock(i, n, 0));
            Edge.bounds(Scenes.SOME, -600, 600, OUTSIDE, (x, n) -> x.knock(i, 0, n));
        }
        Edge.refused(Scenes.SOME, OUTSIDE, x -> x.knock(0, 601, -601));
    }

    private static void knockedKeepsItsTime() {
        Calls x = new Calls();
        for (int i = 0; i < 3; i++) {
            plain(x, 0, 100 * i, 300);
        }
        x.knock(0, 200, 300);
        Edge.due(x, x.told(2, 8), 1);
        Edge.due(x, x.told(0, 7), 4);
        Edge.due(x, x.told(0, 8), 0);
        x.knock(2, 100, 300);
        Edge.due(x, x.told(0, 7), 0);
        Edge.due(x, x.told(1, 7), 4);
        x.knock(2, 0, 0);
        x.knock(1, 0, 14);
        x.knock(0, 14, 0);
        // All are ringers: the last of them stays 2, which came last.
        x.feedAll("cancel top;");
        x.rule(0);
        Edge.due(x, x.score(0, 4), 4);
    }

    private static void knockRefused() {
        Edge.refused(Scenes.BARE, UNKNOWN, x -> x.knock(0, 0, 0));
        Edge.outOf(Scenes.SOME, 0, 6, UNKNOWN, (x, n) -> x.knock(n, 0, 0));
        Edge.outOf(Scenes.BRIMFUL, 0, 11, UNKNOWN, (x, n) -> x.knock(n, 0, 0));
        Edge.due(Scenes.BRIMFUL, 1, x -> x.knock(0, 0, 0));
        Edge.due(Scenes.BRIMFUL, 1, x -> x.knock(10, 0, 0));
        Edge.refused(Scenes.SOME, UNKNOWN, x -> x.knock(7, 601, 0));
        Edge.refused(Scenes.SOME, UNKNOWN, x -> x.knock(-1, 0, -601));
        Edge.refused(Scenes.SOME, OUTSIDE, x -> x.knock(4, 601, 0));
        Edge.refused(Scenes.SOME, OUTSIDE, x -> x.knock(4, 0, -601));
        Edge.refused(Scenes.SOME, NOT, x -> x.knock(4, 600, 0));
        Edge.refused(Scenes.SOME, NOT, x -> x.knock(4, 200, 200));
        Edge.refused(Scenes.SOME, NOT, x -> x.knock(6, -600, 600));
    }

    private static void knockTakesMeasures() {
        Calls x = Edge.behind(Scenes.SOME);
        Edge.due(x, x.count(8), 4);
        Edge.due(x, x.known(0, 0), 700);
        Edge.due(x, x.knock(0, 100, 0), 1);
        Edge.due(x, x.known(0, 0), NONE);
        Edge.due(x, x.known(0, 1), NONE);
        Edge.due(x, x.count(8), 3);
        Edge.due(x, x.count(9), 1);
        Edge.due(x, x.knock(5, 0, 0), 1);
        Edge.due(x, x.count(8), 2);
        Edge.due(x, x.count(9), 0);
        // Those of all three men are gone, and those of the others stay.
        Edge.due(x, x.measure(0, 1, 3, 3), 1);
        Edge.due(x, x.known(2, 1), 9999);
        Edge.due(x, x.known(4, 1), 6);
    }

    // ---- promise 5

    private static void takenOff() {
        Calls x = new Calls();
        plain(x, 0, 0, 0);
        plain(x, 1, 200, 0);
        for (int i = 0; i < 2; i++) {
            Edge.due(x, x.told(i, 6), 0);
            Edge.due(x, x.off(i), 1);
            Edge.due(x, x.told(i, 6), 1);
            Edge.due(x, x.count(1), i + 1);
        }
        // What it is does not change.
        Edge.due(x, x.told(0, 4), 1);
        Edge.due(x, x.told(1, 1), 200);
        Edge.due(x, x.told(1, 5), 170);
    }

    private static void offRefused() {
        Edge.refused(Scenes.BARE, UNKNOWN, x -> x.off(0));
        Edge.refused(Scenes.BARE, UNKNOWN, x -> x.off(-1));
        Edge.outOf(Scenes.SOME, 0, 6, UNKNOWN, Calls::off);
        Edge.outOf(Scenes.BRIMFUL, 0, 11, UNKNOWN, Calls::off);
        Edge.due(Scenes.BRIMFUL, 1, x -> x.off(0));
        Edge.due(Scenes.BRIMFUL, 1, x -> x.off(10));
        Edge.refused(Scenes.SOME, NOT, x -> x.off(4));
        Edge.refused(Scenes.SOME, NOT, x -> x.off(6));
        Edge.refused(Scenes.BRIMFUL, NOT, x -> x.off(11));
    }

    // ---- promise 6

    private static void toldOfPlaces() {
        int[][] places = {{0, 0, 0}, {600, 600, 720000}, {-600, -600, 720000}, {-600, 600, 720000}, {600, -600, 720000},
            {-1, 0, 1}, {0, -1, 1}, {-600, 0, 360000}, {0, 600, 360000}, {-3, 4, 25}};
        Calls x = new Calls();
        for (int k = 0; k < places.length; k++) {
            plain(x, k % 2, places[k][0], places[k][1]);
            Edge.due(x, x.told(k, 0), k % 2);
            Edge.due(x, x.told(k, 1), places[k][0]);
            Edge.due(x, x.told(k, 2), places[k][1]);
            Edge.due(x, x.told(k, 3), places[k][2]);
        }
    }

    private static void onThePin() {
        Calls x = new Calls();
        x.iron(0, 0, 0, 2, 1, 9, true);
        Edge.due(x, x.told(0, 3), 0);
        Edge.due(x, x.told(0, 4), 1);
        Edge.due(x, x.told(0, 5), NONE);
    }

    private static void ringerBelowHoleSquared() {
        for (int hole = 1; hole <= 59; hole++) {
            Calls x = new Calls();
            x.iron(0, hole, 0, 60, hole, 0, true);
            Edge.due(x, x.told(0, 4), 0);
            x.iron(0, 0, -hole, 60, hole, 0, true);
            Edge.due(x, x.told(1, 4), 0);
            x.iron(0, 1 - hole, 0, 60, hole, 0, true);
            Edge.due(x, x.told(2, 4), 1);
            // The outermost places within the round, line by line, and those just out of it.
            x.iron(0, 0, 0, 60, hole, 0, true);
            for (int atX = 0; atX < hole; atX++) {
                int out = 0;
                while (atX * atX + out * out < hole * hole) {
                    out++;
                }
                x.knock(3, -atX, out - 1);
                Edge.due(x, x.told(3, 4), 1);
                x.knock(3, atX, -out);
                Edge.due(x, x.told(3, 4), 0);
            }
        }
        // By its hole alone, not by its size.
        Calls x = new Calls();
        x.iron(0, 3, 4, 6, 5, 0, true);
        Edge.due(x, x.told(0, 4), 0);
        Edge.due(x, x.told(0, 5), 0);
        x.iron(0, 3, 4, 7, 6, 0, true);
        Edge.due(x, x.told(1, 4), 1);
    }

    private static void nearnessFrom0On() {
        Calls x = new Calls();
        // At its size, one within, one beyond, and on the brink of its hole.
        x.iron(0, 30, 0, 30, 15, 0, true);
        Edge.due(x, x.told(0, 5), 0);
        x.iron(0, 29, 0, 30, 15, 7, true);
        Edge.due(x, x.told(1, 5), 7);
        x.iron(0, 0, 31, 30, 15, 7, true);
        Edge.due(x, x.told(2, 5), 8);
        x.iron(0, -15, 0, 30, 15, 9, true);
        Edge.due(x, x.told(3, 5), 9);
        Edge.due(x, x.nearer(3, 0, -9), 0);
        Edge.due(x, x.nearer(1, 3, 2), 0);
        // 30.4 less 30 is above 0.
        x.iron(0, 30, 5, 30, 15, 0, true);
        Edge.due(x, x.told(4, 5), 0);
        Edge.due(x, x.nearer(4, 0, 0), 1);
        Edge.due(x, x.nearer(4, 0, -1), -1);
        // 29.8 less 30 is below 0.
        x.iron(0, 29, 7, 30, 15, 0, true);
        Edge.due(x, x.nearer(5, 0, 0), 0);
    }

    private static void nearnessIsCut() {
        Calls x = new Calls();
        x.iron(0, 600, 600, 2, 1, 9, true);
        Edge.due(x, x.told(0, 5), 855);
        x.iron(0, 600, 600, 60, 59, 0, true);
        Edge.due(x, x.told(1, 5), 788);
        // Just below a whole root, at it, and just above: 65 * 65 = 33 * 33 + 56 * 56.
        x.iron(0, 33, 56, 5, 4, 0, true);
        Edge.due(x, x.told(2, 5), 60);
        x.knock(2, 33, 55);
        Edge.due(x, x.told(2, 5), 59);
        x.knock(2, 4, 65);
        Edge.due(x, x.told(2, 5), 60);
        x.knock(2, 0, -64);
        Edge.due(x, x.told(2, 5), 59);
        x.knock(2, 3, 2);
        Edge.due(x, x.told(2, 5), NONE);
        x.knock(2, 4, 0);
        Edge.due(x, x.told(2, 5), 0);
        wholeDistances();
    }

    /** Each whole distance along a line and one place within it, and some beyond that line's end. */
    private static void wholeDistances() {
        for (int far = 3; far <= 600; far++) {
            Calls x = new Calls();
            x.iron(0, far, 0, 2, 1, 0, true);
            Edge.due(x, x.told(0, 5), far - 2);
            x.knock(0, far - 1, 1);
            Edge.due(x, x.told(0, 5), far - 3);
        }
        int[][] beyond = {{600, 175, 625}, {600, 250, 650}, {560, 420, 700}, {600, 450, 750}, {540, 567, 783}, {560, 588, 812}};
        for (int[] b : beyond) {
            Calls x = new Calls();
            x.iron(0, b[0], -b[1], 60, 1, 0, true);
            Edge.due(x, x.told(0, 5), b[2] - 60);
            x.knock(0, -b[0], b[1] - 1);
            Edge.due(x, x.told(0, 5), b[2] - 61);
        }
    }

    private static void toldOfOff() {
        Calls x = new Calls();
        plain(x, 0, 0, 0);
        Edge.due(x, x.told(0, 6), 0);
        x.off(0);
        Edge.due(x, x.told(0, 6), 1);
        x.off(0);
        Edge.due(x, x.told(0, 6), 1);
    }

    private static void setsOfTwelve() {
        Calls x = new Calls();
        for (int i = 0; i < 12; i++) {
            plain(x, i % 2, 300, i);
        }
        for (int i = 0; i < 12; i++) {
            Edge.due(x, x.told(i, 7), 4095 & ~((1 << i + 1) - 1));
            Edge.due(x, x.told(i, 8), (1 << i) - 1);
        }
        Calls bare = new Calls();
        plain(bare, 0, 0, 0);
        Edge.due(bare, bare.told(0, 7), 0);
        Edge.due(bare, bare.told(0, 8), 0);
    }

    private static void onOnlyIfLaterAndThere() {
        Calls x = new Calls();
        for (int i = 0; i < 3; i++) {
            plain(x, 0, 300, 0);
        }
        x.off(1);
        Edge.due(x, x.told(0, 7), 4);
        Edge.due(x, x.told(1, 7), 0);
        Edge.due(x, x.told(1, 8), 0);
        Edge.due(x, x.told(2, 8), 1);
        x.off(0);
        Edge.due(x, x.told(2, 8), 0);
        Edge.due(x, x.told(0, 7), 0);
    }

    private static void onBelowBothSizes() {
        for (int one : new int[] {2, 3, 17, 60}) {
            for (int other : new int[] {2, 8, 33, 60}) {
                int both = one + other;
                Calls x = new Calls();
                x.iron(0, -100, 50, one, 1, 0, true);
                x.iron(1, -100 + both, 50, other, 1, 0, true);
                Edge.due(x, x.told(0, 7), 0);
                x.knock(1, -100 + both - 1, 50);
                Edge.due(x, x.told(0, 7), 2);
                x.knock(1, -100, 50 - both);
                Edge.due(x, x.told(1, 8), 0);
                x.knock(1, -100, 50 - both + 1);
                Edge.due(x, x.told(1, 8), 1);
            }
        }
        // 72 and 96 are 120 apart.
        Calls x = new Calls();
        x.iron(0, 0, 0, 60, 1, 0, true);
        x.iron(0, 72, 96, 60, 1, 0, true);
        Edge.due(x, x.told(0, 7), 0);
        x.knock(1, 72, 95);
        Edge.due(x, x.told(0, 7), 2);
        x.knock(1, -73, -96);
        Edge.due(x, x.told(0, 7), 0);
        // As far apart as can be.
        x.knock(0, -600, -600);
        x.knock(1, 600, 600);
        Edge.due(x, x.told(0, 7), 0);
        Edge.due(x, x.told(1, 8), 0);
    }

    private static void toldRefused() {
        Edge.refused(Scenes.BARE, UNKNOWN, x -> x.told(0, 0));
        Edge.bounds(Scenes.SOME, 0, 6, UNKNOWN, (x, n) -> x.told(n, 6));
        Edge.bounds(Scenes.BRIMFUL, 0, 11, UNKNOWN, (x, n) -> x.told(n, 9));
        for (int i : new int[] {0, 1, 4, 6}) {
            Edge.bounds(Scenes.SOME, 0, 9, OUTSIDE, (x, n) -> x.told(i, n));
        }
        Edge.refused(Scenes.SOME, UNKNOWN, x -> x.told(7, 10));
        Edge.refused(Scenes.SOME, UNKNOWN, x -> x.told(-1, -1));
        Edge.refused(Scenes.BARE, UNKNOWN, x -> x.told(0, 10));
    }

    // ---- promise 7

    private static void nearerWithKInBounds() {
        Edge.bounds(Scenes.SOME, -9999, 9999, OUTSIDE, (x, n) -> x.nearer(0, 2, n));
        Calls x = new Calls();
        x.iron(0, 600, 600, 2, 1, 9, true);
        x.iron(0, 30, 0, 30, 15, 0, true);
        for (int i = 0; i < 2; i++) {
            for (int j = 0; j < 2; j++) {
                Edge.due(x, x.nearer(i, j, -9999), -1);
                Edge.due(x, x.nearer(i, j, 9999), 1);
            }
        }
        // 855.52 off: all of it has to be taken away.
        Edge.due(x, x.nearer(0, 1, -855), 1);
        Edge.due(x, x.nearer(0, 1, -856), -1);
        Edge.due(x, x.nearer(1, 0, 855), -1);
        Edge.due(x, x.nearer(1, 0, 856), 1);
    }

    /** What men tell of an iron is a span of its nearness, not its nearness. */
    private static void nearnessWhateverMenTold() {
        for (int measured = 1; measured < 4; measured++) {
            Calls x = new Calls();
            x.iron(0, 100, 0, 30, 15, 0, true);
            x.iron(1, 0, 90, 30, 15, 1, true);
            for (int i = 0; i < 2; i++) {
                if ((measured >> i & 1) != 0) {
                    x.measure(i, 1, 2000, 3000);
                    x.measure(i, 2, 2500, 3500);
                }
            }
            Edge.due(x, x.told(0, 5), 70);
            Edge.due(x, x.told(1, 5), 61);
            Edge.due(x, x.nearer(0, 1, -9), 0);
            Edge.due(x, x.nearer(0, 1, -10), -1);
            Edge.due(x, x.nearer(1, 0, 9), 0);
            Edge.due(x, x.nearer(1, 0, 10), 1);
        }
    }

    private static void nearerLessSameMore() {
        Calls x = new Calls();
        x.iron(0, 100, 0, 30, 15, 0, true);
        x.iron(1, 0, -99, 30, 15, 1, true);
        x.iron(1, 60, 80, 29, 15, 0, true);
        Edge.due(x, x.nearer(0, 1, 0), 0);
        Edge.due(x, x.nearer(0, 1, 1), 1);
        Edge.due(x, x.nearer(0, 1, -1), -1);
        Edge.due(x, x.nearer(0, 2, 0), -1);
        Edge.due(x, x.nearer(0, 2, 1), 0);
        Edge.due(x, x.nearer(2, 0, 0), 1);
        Edge.due(x, x.nearer(2, 0, -1), 0);
        Edge.due(x, x.nearer(0, 0, 0), 0);
        Edge.due(x, x.nearer(0, 0, 1), 1);
        Edge.due(x, x.nearer(0, 0, -1), -1);
        // Those OFF have their nearness too.
        x.off(0);
        x.off(1);
        Edge.due(x, x.nearer(0, 1, 0), 0);
        Edge.due(x, x.nearer(0, 2, 0), -1);
    }

    /** Pairs of places whose distances differ from a whole number by next to nothing. */
    private static void nearerIsExact() {
        for (int[] p : CLOSE) {
            Calls x = new Calls();
            x.iron(0, p[0], p[1], 2, 1, 0, true);
            x.iron(1, p[2], p[3], 2, 1, 0, true);
            // The root of the first is the other one's and p[4], and a little more (p[5] = 1) or less (-1).
            Edge.due(x, x.nearer(0, 1, -p[4]), p[5]);
            Edge.due(x, x.nearer(1, 0, p[4]), -p[5]);
            Edge.due(x, x.nearer(0, 1, 1 - p[4]), 1);
            Edge.due(x, x.nearer(0, 1, -1 - p[4]), -1);
        }
    }

    private static final int[][] CLOSE = {
        {577, -577, -288, 289, 408, 1}, {551, -535, -1, 384, 384, 1}, {591, -465, -121, 356, 376, 1},
        {557, -397, -206, 273, 342, 1}, {548, -501, -104, 106, 594, 1}, {541, 502, 542, 474, 18, 1},
        {495, 495, 553, -406, 14, 1}, {575, -258, -294, 401, 133, -1}, {419, -234, -107, 330, 133, -1},
        {480, -89, -252, 307, 91, -1}, {391, -24, -48, 77, 301, -1}, {595, -186, -163, 582, 19, -1},
        {577, 387, -598, 319, 17, -1}, {181, -54, -73, 90, 73, -1}, {600, 600, 600, 599, 0, 1},
        {2, 1, 2, 0, 0, 1}, {26, 1, 26, 0, 0, 1}};

    private static void nearerRefused() {
        Edge.refused(Scenes.BARE, UNKNOWN, x -> x.nearer(0, 0, 0));
        Edge.outOf(Scenes.SOME, 0, 6, UNKNOWN, (x, n) -> x.nearer(n, 0, 0));
        Edge.outOf(Scenes.SOME, 0, 6, UNKNOWN, (x, n) -> x.nearer(0, n, 0));
        Edge.refused(Scenes.SOME, UNKNOWN, x -> x.nearer(7, 7, 0));
        Edge.refused(Scenes.SOME, UNKNOWN, x -> x.nearer(-1, 0, 10000));
        Edge.refused(Scenes.SOME, UNKNOWN, x -> x.nearer(0, 7, -10000));
        Edge.refused(Scenes.SOME, UNKNOWN, x -> x.nearer(1, 7, 0));
        Edge.refused(Scenes.SOME, UNKNOWN, x -> x.nearer(7, 1, 0));
        Edge.refused(Scenes.SOME, UNKNOWN, x -> x.nearer(7, 1, 10000));
        Edge.refused(Scenes.SOME, OUTSIDE, x -> x.nearer(1, 0, 10000));
        Edge.refused(Scenes.SOME, OUTSIDE, x -> x.nearer(0, 1, -10000));
        Edge.refused(Scenes.SOME, OUTSIDE, x -> x.nearer(1, 1, 10000));
        Edge.refused(Scenes.SOME, NOT, x -> x.nearer(1, 0, 9999));
        Edge.refused(Scenes.SOME, NOT, x -> x.nearer(0, 1, -9999));
        Edge.refused(Scenes.SOME, NOT, x -> x.nearer(1, 1, 0));
        // A ringer that is OFF is one all the same.
        Edge.refused(Scenes.SOME, NOT, x -> x.nearer(6, 0, 0));
        Edge.refused(Scenes.SOME, NOT, x -> x.nearer(4, 6, 0));
    }

    // ---- promise 8

    private static void countsOfAll() {
        int[] some = {7, 2, 0, 1, 6, 2, 15, 3, 4, 1};
        int[] brimful = {12, 2, 2, 1, 24, 6, 100, 5, 3, 1};
        for (int what = 0; what < 10; what++) {
            int asked = what;
            Edge.due(Scenes.BARE, what == 7 ? 1 : 0, x -> x.count(asked));
            Edge.due(Scenes.SOME, some[what], x -> x.count(asked));
            Edge.due(Scenes.BRIMFUL, brimful[what], x -> x.count(asked));
            Edge.due(Scenes.SEVEN_OPEN, what == 5 ? 7 : brimful[what], x -> x.count(asked));
        }
        Calls x = new Calls();
        for (int i = 0; i < 12; i++) {
            plain(x, i / 6, 0, i);
        }
        Edge.due(x, x.count(2), 6);
        Edge.due(x, x.count(3), 6);
        for (int i = 0; i < 12; i++) {
            x.knock(i, 300, 300);
            x.measure(i, 0, 1, 1);
            x.measure(i, 2, 2, 2);
        }
        Edge.due(x, x.count(8), 12);
        Edge.due(x, x.count(9), 12);
    }

    private static void ringersNotOff() {
        Calls x = new Calls();
        for (int side = 0; side < 2; side++) {
            plain(x, side, 0, 0);
            plain(x, side, 14, 0);
            plain(x, side, 15, 0);
        }
        Edge.due(x, x.count(2), 2);
        Edge.due(x, x.count(3), 2);
        x.off(0);
        Edge.due(x, x.count(2), 1);
        Edge.due(x, x.count(3), 2);
        x.off(4);
        Edge.due(x, x.count(3), 1);
        x.off(2);
        Edge.due(x, x.count(2), 1);
        Edge.due(x, x.count(1), 3);
    }

    private static void spansOfIronsOff() {
        Calls x = new Calls();
        plain(x, 0, 100, 0);
        x.measure(0, 1, 5, 6);
        Edge.due(x, x.count(8), 1);
        Edge.due(x, x.count(9), 0);
        x.measure(0, 1, 7, 8);
        Edge.due(x, x.count(8), 1);
        x.measure(0, 0, 8, 9);
        Edge.due(x, x.count(9), 0);
        x.measure(0, 2, 9, 9);
        Edge.due(x, x.count(9), 1);
        // Only a knock takes them.
        x.off(0);
        Edge.due(x, x.count(8), 1);
        Edge.due(x, x.count(9), 1);
    }

    private static void countRefused() {
        Edge.bounds(Scenes.BARE, 0, 9, OUTSIDE, Calls::count);
        Edge.bounds(Scenes.SOME, 0, 9, OUTSIDE, Calls::count);
        Edge.bounds(Scenes.BRIMFUL, 0, 9, OUTSIDE, Calls::count);
    }
}
