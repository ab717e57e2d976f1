/** Promises 1 to 8: a new object, rake, iron, knock, off, told, nearer, count. */
public final class ClayTest {
    public static void main(String[] args) {
        newObject();
        ironBounds();
        ironsAreFull();
        rakeBaresTheClay();
        knocked();
        takenOff();
        toldOfAnIron();
        liesOn();
        nearness();
        nearnessIsExact();
        counts();
        Due.finish();
    }

    private static void newObject() {
        QuoitBook x = new QuoitBook();
        int[] counts = {0, 0, 0, 0, 0, 0, 0, 1, 0, 0};
        for (int what = 0; what < counts.length; what++) {
            Due.due("new: count(" + what + ")", x.count(what), counts[what]);
        }
        int[] says = {2, 1, 12, 0, 21, 1, 1, 1};
        for (int village = 0; village < 6; village++) {
            for (int what = 0; what < says.length; what++) {
                Due.due("new: says(" + village + ", " + what + ")", x.says(village, what), says[what]);
            }
            Due.due("new: place", x.standing(village, 7), 1);
            Due.due("new: reach", x.reach(village, 1), 1);
        }
        Due.due("new: fault()", x.fault(), QuoitBook.NONE);
        Due.due("new: score", x.score(0, 0), 0);
        Due.due("new: sure", x.sure(0, 2), 1);
        Due.due("new: about", x.about(0, 0), QuoitBook.UNKNOWN);
    }

    private static void ironBounds() {
        QuoitBook x = new QuoitBook();
        int[][] outside = {
            {-1, 0, 0, 30, 15, 0}, {2, 0, 0, 30, 15, 0}, {0, 601, 0, 30, 15, 0}, {0, -601, 0, 30, 15, 0},
            {0, 0, 601, 30, 15, 0}, {0, 0, -601, 30, 15, 0}, {0, 0, 0, 1, 1, 0}, {0, 0, 0, 61, 15, 0},
            {0, 0, 0, 30, 0, 0}, {0, 0, 0, 30, 30, 0}, {0, 0, 0, 30, 15, -1}, {0, 0, 0, 30, 15, 10},
            {0, Integer.MIN_VALUE, 0, 30, 15, 0}, {0, 0, 0, Integer.MIN_VALUE, 15, 0},
            {0, 0, 0, Integer.MAX_VALUE, Integer.MAX_VALUE, 0}};
        for (int[] a : outside) {
            Due.due("iron outside", x.iron(a[0], a[1], a[2], a[3], a[4], a[5], true), QuoitBook.OUTSIDE);
        }
        Due.due("nothing came", x.count(0), 0);
        Due.due("least iron", x.iron(0, -600, -600, 2, 1, 0, true), 0);
        Due.due("greatest iron", x.iron(1, 600, 600, 60, 59, 9, false), 1);
        Due.due("square", x.told(0, 3), 720000);
        Due.due("nearness", x.told(0, 5), 846);
        Due.due("nearness", x.told(1, 5), 797);
    }

    private static void ironsAreFull() {
        QuoitBook x = new QuoitBook();
        for (int i = 0; i < 12; i++) {
            Due.due("iron " + i, x.iron(i % 2, 10 * i, 0, 30, 15, 0, true), i);
        }
        Due.due("off", x.off(3), 1);
        Due.due("full, those off with them", x.iron(0, 0, 0, 30, 15, 0, true), QuoitBook.FULL);
        Due.due("outside ahead of full", x.iron(2, 0, 0, 30, 15, 0, true), QuoitBook.OUTSIDE);
        Due.due("count(0)", x.count(0), 12);
    }

    private static void rakeBaresTheClay() {
        QuoitBook x = new QuoitBook();
        Due.due("rake of bare clay", x.rake(), 0);
        x.iron(0, 100, 0, 30, 15, 0, true);
        x.iron(1, 100, 50, 30, 15, 0, true);
        x.measure(0, 0, 10, 20);
        x.off(1);
        Due.due("rake", x.rake(), 2);
        Due.due("told behind rake", x.told(0, 0), QuoitBook.UNKNOWN);
        for (int what = 0; what <= 3; what++) {
            Due.due("count behind rake", x.count(what), 0);
        }
        Due.due("spans behind rake", x.count(8), 0);
        Due.due("numbers begin again", x.iron(0, 50, 50, 30, 15, 0, true), 0);
        Due.due("no span of the one before", x.known(0, 0), QuoitBook.NONE);
        Due.due("another", x.iron(0, 50, 50, 30, 15, 0, true), 1);
        Due.due("is not off", x.told(1, 6), 0);
    }

    private static void knocked() {
        QuoitBook x = new QuoitBook();
        Due.due("knock unknown", x.knock(0, 0, 0), QuoitBook.UNKNOWN);
        Due.due("unknown ahead of outside", x.knock(-1, 601, 0), QuoitBook.UNKNOWN);
        x.iron(0, 100, 0, 30, 15, 3, true);
        x.iron(1, 200, 0, 30, 15, 0, true);
        Due.due("knock outside", x.knock(0, 601, 0), QuoitBook.OUTSIDE);
        Due.due("knock outside", x.knock(0, 0, -601), QuoitBook.OUTSIDE);
        Due.due("stays", x.told(0, 1), 100);
        x.measure(0, 1, 5, 6);
        Due.due("knock", x.knock(0, 190, -7), 1);
        Due.due("x", x.told(0, 1), 190);
        Due.due("y", x.told(0, 2), -7);
        Due.due("measures go", x.known(0, 0), QuoitBook.NONE);
        Due.due("when it came does not change", x.told(0, 7), 2);
        Due.due("when it came does not change", x.told(1, 8), 1);
        Due.due("knock to the same place", x.knock(0, 190, -7), 1);
        x.off(0);
        Due.due("knock of one off", x.knock(0, 0, 0), QuoitBook.NOT);
        Due.due("outside ahead of not", x.knock(0, 0, 601), QuoitBook.OUTSIDE);
        Due.due("stays", x.told(0, 1), 190);
    }

    private static void takenOff() {
        QuoitBook x = new QuoitBook();
        Due.due("off unknown", x.off(0), QuoitBook.UNKNOWN);
        x.iron(0, 100, 0, 30, 15, 0, true);
        Due.due("off unknown", x.off(1), QuoitBook.UNKNOWN);
        Due.due("is there", x.told(0, 6), 0);
        Due.due("off", x.off(0), 1);
        Due.due("is off", x.told(0, 6), 1);
        Due.due("off again", x.off(0), QuoitBook.NOT);
        Due.due("its nearness is still told", x.told(0, 5), 70);
    }

    private static void toldOfAnIron() {
        QuoitBook x = new QuoitBook();
        x.iron(1, -30, 40, 20, 19, 4, false);
        int[] told = {1, -30, 40, 2500, 0, 34, 0, 0, 0, 0};
        for (int what = 0; what < told.length; what++) {
            Due.due("told(0, " + what + ")", x.told(0, what), told[what]);
        }
        Due.due("told outside", x.told(0, 10), QuoitBook.OUTSIDE);
        Due.due("told outside", x.told(0, -1), QuoitBook.OUTSIDE);
        Due.due("unknown ahead of outside", x.told(1, 10), QuoitBook.UNKNOWN);
        x.iron(0, 12, 9, 30, 15, 2, true);
        Due.due("15 from the pin with a hole of 15: no ringer", x.told(1, 4), 0);
        Due.due("below its size: the lift alone", x.told(1, 5), 2);
        x.iron(0, 12, 9, 30, 16, 2, true);
        Due.due("ringer", x.told(2, 4), 1);
        Due.due("ringer has no nearness", x.told(2, 5), QuoitBook.NONE);
        Due.due("hill up", x.told(2, 9), 1);
        x.iron(0, 30, 0, 30, 16, 0, true);
        Due.due("at its size", x.told(3, 5), 0);
        x.iron(0, 30, 30, 30, 16, 1, true);
        Due.due("42.4 less 30 and 1, cut", x.told(4, 5), 13);
    }

    private static void liesOn() {
        QuoitBook x = new QuoitBook();
        x.iron(0, 100, 0, 30, 15, 0, true);
        x.iron(1, 150, 0, 20, 10, 0, true);
        x.iron(1, 149, 0, 20, 10, 0, true);
        Due.due("50 apart with sizes 50: not on", x.told(0, 7), 4);
        Due.due("on", x.told(2, 8), 3);
        Due.due("on", x.told(1, 7), 4);
        Due.due("not under what came ahead", x.told(1, 8), 0);
        x.off(2);
        Due.due("one off lies on none", x.told(0, 7), 0);
        Due.due("one off lies on none", x.told(2, 8), 0);
        x.iron(1, 149, 0, 20, 10, 0, true);
        Due.due("none lies on one off", x.told(2, 7), 0);
        Due.due("none lies on one off", x.told(3, 8), 3);
        x.iron(0, -300, 200, 30, 15, 0, true);
        x.iron(0, -300, 240, 30, 15, 0, true);
        x.iron(0, -290, -200, 30, 15, 0, true);
        Due.due("near by x and y", x.told(4, 7), 32);
        Due.due("near by x alone", x.told(6, 8), 0);
    }

    private static void nearness() {
        QuoitBook x = new QuoitBook();
        Due.due("unknown", x.nearer(0, 0, 0), QuoitBook.UNKNOWN);
        x.iron(0, 60, 80, 30, 15, 0, true);
        x.iron(1, 0, 0, 30, 15, 0, true);
        x.iron(1, 0, 80, 30, 15, 9, true);
        Due.due("unknown i", x.nearer(3, 0, 0), QuoitBook.UNKNOWN);
        Due.due("unknown j, ahead of outside and not", x.nearer(1, 3, 10000), QuoitBook.UNKNOWN);
        Due.due("outside ahead of not", x.nearer(1, 0, 10000), QuoitBook.OUTSIDE);
        Due.due("outside", x.nearer(0, 0, -10000), QuoitBook.OUTSIDE);
        Due.due("not: i is a ringer", x.nearer(1, 0, 0), QuoitBook.NOT);
        Due.due("not: j is a ringer", x.nearer(0, 1, 0), QuoitBook.NOT);
        Due.due("70 and 59", x.nearer(0, 2, 0), 1);
        Due.due("70 and 59", x.nearer(0, 2, -11), 0);
        Due.due("70 and 59", x.nearer(0, 2, -12), -1);
        Due.due("far bounds", x.nearer(0, 2, -9999), -1);
        Due.due("far bounds", x.nearer(0, 2, 9999), 1);
        x.off(2);
        Due.due("one off has a nearness", x.nearer(2, 0, 11), 0);
    }

    private static void nearnessIsExact() {
        QuoitBook x = new QuoitBook();
        // Roots of 720000 and 719401 differ by less than one; of 2 and 8 by the root of 2.
        x.iron(0, 600, 600, 2, 1, 0, true);
        x.iron(0, 600, 599, 3, 1, 0, true);
        Due.due("848.53 - 2 and 847.82 - 3", x.nearer(0, 1, 0), 1);
        Due.due("848.53 - 2 and 847.82 - 3", x.nearer(0, 1, -1), 1);
        Due.due("848.53 - 2 and 847.82 - 3", x.nearer(0, 1, -2), -1);
        x.iron(0, 100, 100, 2, 1, 0, true);
        x.iron(0, -140, 20, 2, 1, 0, true);
        Due.due("like squares", x.nearer(2, 3, 0), 0);
        Due.due("like squares", x.nearer(2, 3, 1), 1);
        x.iron(0, 1, 1, 2, 1, 5, true);
        x.iron(0, 0, 2, 2, 1, 5, true);
        Due.due("both within their size", x.nearer(4, 5, 0), 0);
        x.iron(0, 600, 600, 60, 1, 0, true);
        x.iron(0, 577, 577, 28, 1, 0, true);
        Due.due("788.528 and 788.001", x.nearer(6, 7, 0), 1);
        Due.due("788.528 and 788.001", x.nearer(7, 6, 0), -1);
        Due.due("788.528 and 788.001", x.nearer(7, 6, 1), 1);
    }

    private static void counts() {
        QuoitBook x = new QuoitBook();
        x.iron(1, 300, 100, 30, 15, 0, true);
        x.iron(0, 1, 1, 30, 15, 0, true);
        x.iron(0, 2, 1, 30, 15, 0, true);
        x.iron(0, 2, 2, 30, 15, 0, true);
        x.iron(1, 3, 1, 30, 15, 0, true);
        x.iron(1, 300, 1, 30, 15, 0, true);
        x.off(1);
        x.measure(5, 0, 10, 20);
        x.measure(0, 0, 10, 20);
        x.measure(0, 2, 21, 30);
        Due.feed(x, "ab");
        x.match(0, 1, 0);
        x.match(2, 1, 0);
        x.match(2, 3, 0);
        x.dusk(1);
        int[] counts = {6, 1, 2, 1, 3, 2, 2, 1, 2, 1};
        for (int what = 0; what < counts.length; what++) {
            Due.due("count(" + what + ")", x.count(what), counts[what]);
        }
        Due.due("count outside", x.count(10), QuoitBook.OUTSIDE);
        Due.due("count outside", x.count(-1), QuoitBook.OUTSIDE);
        x.off(0);
        Due.due("off", x.count(1), 2);
        Due.due("one off keeps its spans", x.count(8), 2);
        Due.due("one off stays disputed", x.count(9), 1);
    }
}
