/** Promises 14 to 16: measure, known, sure. */
public final class MeasuresTest {
    public static void main(String[] args) {
        measured();
        knownOf();
        sureBounds();
        leastAndGreatest();
        touchingSpans();
        spansAgainstTheClay();
        disputes();
        Due.finish();
    }

    private static void measured() {
        QuoitBook x = new QuoitBook();
        Due.due("unknown ahead of outside", x.measure(0, 3, 0, 1), QuoitBook.UNKNOWN);
        x.iron(0, 300, 0, 30, 15, 0, true);
        x.iron(0, 3, 0, 30, 15, 0, true);
        int[][] outside = {{-1, 0, 1}, {3, 0, 1}, {0, -1, 1}, {0, 0, 10000}, {0, 10000, 10000}, {0, 2, 1}};
        for (int[] a : outside) {
            Due.due("outside", x.measure(0, a[0], a[1], a[2]), QuoitBook.OUTSIDE);
            Due.due("outside ahead of not", x.measure(1, a[0], a[1], a[2]), QuoitBook.OUTSIDE);
        }
        Due.due("nothing told", x.count(8), 0);
        Due.due("a ringer", x.measure(1, 0, 0, 1), QuoitBook.NOT);
        Due.due("one man", x.measure(0, 2, 0, 9999), 1);
        Due.due("two men", x.measure(0, 0, 9999, 9999), 2);
        Due.due("another one in its place", x.measure(0, 2, 0, 0), 2);
        Due.due("three men", x.measure(0, 1, 5, 5), 3);
        x.off(0);
        Due.due("one off", x.measure(0, 1, 5, 5), QuoitBook.NOT);
    }

    private static void knownOf() {
        QuoitBook x = new QuoitBook();
        Due.due("unknown", x.known(0, 2), QuoitBook.UNKNOWN);
        x.iron(0, 300, 0, 30, 15, 0, true);
        Due.due("outside", x.known(0, 2), QuoitBook.OUTSIDE);
        Due.due("outside", x.known(0, -1), QuoitBook.OUTSIDE);
        knownIs(x, -1, -1);
        x.measure(0, 1, 100, 300);
        knownIs(x, 100, 300);
        x.measure(0, 2, 300, 400);
        knownIs(x, 300, 300);
        x.measure(0, 0, 0, 299);
        knownIs(x, -1, -1);
        x.measure(0, 2, 50, 200);
        knownIs(x, 100, 200);
        x.off(0);
        knownIs(x, 100, 200);
        x.rake();
        x.iron(0, 300, 0, 30, 15, 0, true);
        x.measure(0, 2, 0, 9999);
        knownIs(x, 0, 9999);
        x.measure(0, 0, 0, 0);
        knownIs(x, 0, 0);
    }

    private static void knownIs(QuoitBook x, int low, int high) {
        Due.due("known(0, 0)", x.known(0, 0), low);
        Due.due("known(0, 1)", x.known(0, 1), high);
    }

    private static void sureBounds() {
        QuoitBook x = new QuoitBook();
        Due.due("unknown", x.sure(6, 3), QuoitBook.UNKNOWN);
        Due.due("unknown", x.sure(-1, 0), QuoitBook.UNKNOWN);
        Due.due("outside", x.sure(0, 3), QuoitBook.OUTSIDE);
        Due.due("outside", x.sure(0, -1), QuoitBook.OUTSIDE);
        x.iron(0, 300, 0, 30, 15, 0, true);
        x.measure(0, 0, 1, 2);
        x.measure(0, 1, 3, 4);
        Due.due("outside ahead of not", x.sure(0, 3), QuoitBook.OUTSIDE);
        Due.due("not", x.sure(0, 2), QuoitBook.NOT);
    }

    private static void sureIs(QuoitBook x, int village, int least, int greatest) {
        Due.due("sure(" + village + ", 0)", x.sure(village, 0), least);
        Due.due("sure(" + village + ", 1)", x.sure(village, 1), greatest);
        Due.due("sure(" + village + ", 2)", x.sure(village, 2), least == greatest ? 1 : 0);
    }

    private static void leastAndGreatest() {
        QuoitBook x = new QuoitBook();
        Due.rule(x, 1, "most 1; near 3;", 2, -1);
        Due.rule(x, 2, "measure 5;", 1, -1);
        x.iron(0, 100, 0, 30, 15, 0, true);
        x.iron(0, 110, 0, 30, 15, 0, true);
        x.iron(1, 0, 105, 30, 15, 0, true);
        x.iron(1, 0, 0, 30, 15, 0, true);
        sureIs(x, 0, -1, -1);
        x.measure(0, 0, 600, 800);
        x.measure(1, 0, 600, 800);
        sureIs(x, 0, -3, 0);
        sureIs(x, 1, -5, 1);
        sureIs(x, 2, -2, 0);
        x.measure(2, 0, 650, 651);
        sureIs(x, 0, -3, 0);
        sureIs(x, 2, -3, 0);
        x.measure(0, 1, 600, 601);
        x.measure(1, 1, 600, 601);
        sureIs(x, 0, 0, 0);
        Due.due("the score is of the clay alone", x.score(0, 0), -1);
    }

    private static void touchingSpans() {
        QuoitBook x = new QuoitBook();
        x.iron(0, 100, 0, 30, 15, 0, true);
        x.iron(1, 0, 105, 30, 15, 0, true);
        x.measure(0, 0, 500, 600);
        x.measure(1, 0, 600, 700);
        sureIs(x, 0, 0, 1);
        x.measure(0, 0, 600, 600);
        x.measure(1, 0, 600, 600);
        sureIs(x, 0, 0, 0);
        x.measure(1, 0, 600, 601);
        sureIs(x, 0, 0, 1);
        x.measure(0, 0, 600, 601);
        sureIs(x, 0, -1, 1);
    }

    private static void spansAgainstTheClay() {
        QuoitBook x = new QuoitBook();
        x.iron(0, 100, 100, 30, 15, 0, true);
        x.iron(1, 300, 0, 30, 15, 0, true);
        // The root of 20000 less 30 is 111.42.
        x.measure(1, 0, 1115, 2000);
        sureIs(x, 0, 1, 1);
        x.measure(1, 0, 1114, 2000);
        sureIs(x, 0, -1, 1);
        x.measure(1, 0, 0, 1114);
        sureIs(x, 0, -1, -1);
        x.knock(0, 110, 0);
        x.measure(1, 0, 800, 800);
        sureIs(x, 0, 0, 0);
    }

    private static void disputes() {
        QuoitBook x = new QuoitBook();
        Due.rule(x, 1, "down no;", 1, -1);
        Due.rule(x, 2, "under no;", 1, -1);
        x.iron(0, 100, 0, 30, 15, 0, false);
        x.iron(1, 110, 0, 30, 15, 0, true);
        x.measure(0, 0, 1, 2);
        x.measure(0, 1, 3, 4);
        Due.due("a disputed one counts", x.sure(0, 0), QuoitBook.NOT);
        sureIs(x, 1, -1, -1);
        sureIs(x, 2, -1, -1);
        x.off(1);
        Due.due("nothing lies on it now", x.sure(2, 0), QuoitBook.NOT);
        x.off(0);
        sureIs(x, 0, 0, 0);
    }
}
