/** Promises 17 and 18: act, win. */
public final class LastEndTest {
    public static void main(String[] args) {
        actBounds();
        winBounds();
        noThrows();
        actsAtFirst();
        leadStaysInBounds();
        turns();
        likeActs();
        deepEnds();
        Due.finish();
    }

    private static void winIs(QuoitBook x, int n, int side, int lead, int need, long upper, long lower, long best) {
        String call = "win(" + n + ", " + side + ", " + lead + ", " + need + ", ";
        Due.due(call + "0)", x.win(n, side, lead, need, 0), upper);
        Due.due(call + "1)", x.win(n, side, lead, need, 1), lower);
        Due.due(call + "2)", x.win(n, side, lead, need, 2), best);
    }

    private static void actBounds() {
        QuoitBook x = new QuoitBook();
        int[][] outside = {
            {-1, 0, 60, 0, 0, 0, 0}, {2, 0, 60, 0, 0, 0, 0}, {0, -1, 60, 0, 0, 0, 0}, {0, 3, 60, 0, 0, 0, 0},
            {0, 0, 61, -1, 0, 0, 0}, {0, 0, -1, 61, 0, 0, 0}, {0, 0, 0, 0, 61, 0, -1}, {0, 0, 0, 0, 0, 0, 0},
            {0, 0, -1, 31, 30, 0, 0}, {0, 0, 30, -1, 31, 0, 0}, {0, 0, 0, 30, -1, 31, 0}, {0, 0, 0, 0, 30, -1, 31},
            {0, 0, 31, 0, 0, 30, -1}, {0, 0, 59, 0, 0, 0, 0}, {0, 0, 20, 20, 20, 0, 1},
            {0, 0, Integer.MAX_VALUE, Integer.MAX_VALUE, 62, 0, 0}, {0, 0, 60, 60, 60, 60, -180}};
        for (int[] a : outside) {
            Due.due("act outside", x.act(a[0], a[1], a[2], a[3], a[4], a[5], a[6]), QuoitBook.OUTSIDE);
        }
        winIs(x, 1, 0, 0, 1, 1, 2, 0);
        Due.due("act", x.act(1, 2, 12, 12, 12, 12, 12), 1);
        winIs(x, 1, 0, 0, 1, 1, 2, 0);
        Due.due("act", x.act(0, 2, 0, 0, 0, 0, 60), 1);
        winIs(x, 1, 0, 0, 1, 1, 1, 2);
    }

    private static void winBounds() {
        QuoitBook x = new QuoitBook();
        int[][] outside = {
            {-1, 0, 0, 0, 0}, {7, 0, 0, 0, 0}, {1, -1, 0, 0, 0}, {1, 2, 0, 0, 0}, {1, 0, -10, 0, 0}, {1, 0, 10, 0, 0},
            {1, 0, 0, -10, 0}, {1, 0, 0, 10, 0}, {1, 0, 0, 0, -1}, {1, 0, 0, 0, 3}, {0, 0, 10, 0, 2}};
        for (int[] a : outside) {
            Due.due("win outside", x.win(a[0], a[1], a[2], a[3], a[4]), QuoitBook.OUTSIDE);
        }
    }

    private static void noThrows() {
        QuoitBook x = new QuoitBook();
        winIs(x, 0, 0, 0, 0, 1, 1, -1);
        winIs(x, 0, 1, -1, 0, 0, 1, -1);
        winIs(x, 0, 0, 9, 9, 1, 1, -1);
        winIs(x, 0, 0, -9, -9, 1, 1, -1);
        winIs(x, 0, 0, 8, 9, 0, 1, -1);
    }

    private static void actsAtFirst() {
        QuoitBook x = new QuoitBook();
        // By side 0 at -2 a lead of 0 needs two: 10, 0, 30 of 60.
        winIs(x, 1, 0, -2, 0, 1, 2, 2);
        winIs(x, 1, 0, -1, 0, 1, 2, 0);
        winIs(x, 1, 0, 0, 0, 1, 1, 1);
        winIs(x, 1, 0, 1, 0, 1, 1, 0);
        winIs(x, 1, 0, -3, 0, 0, 1, 0);
        // By side 1 the other way round.
        winIs(x, 1, 1, 2, 1, 1, 2, 2);
        winIs(x, 1, 1, 1, 1, 1, 2, 0);
        winIs(x, 1, 1, 0, 1, 0, 1, 1);
        winIs(x, 1, 1, 3, 1, 1, 1, 0);
    }

    private static void leadStaysInBounds() {
        QuoitBook x = new QuoitBook();
        winIs(x, 1, 0, 9, 9, 1, 1, 1);
        x.act(0, 0, 0, 0, 0, 0, 60);
        x.act(1, 0, 0, 0, 0, 60, 0);
        x.act(1, 1, 0, 0, 0, 60, 0);
        x.act(1, 2, 0, 0, 0, 60, 0);
        // 9 and 2 stays 9, then one less: 8.
        winIs(x, 2, 0, 9, 8, 1, 1, 0);
        winIs(x, 2, 0, 9, 9, 0, 1, 0);
        winIs(x, 2, 1, -9, -8, 1, 1, 0);
        winIs(x, 2, 1, -9, -7, 1, 1, 0);
        winIs(x, 2, 1, -9, -6, 0, 1, 0);
    }

    private static void turns() {
        QuoitBook x = new QuoitBook();
        for (int act = 0; act < 3; act++) {
            x.act(0, act, 0, 0, 0, 0, 60);
            x.act(1, act, 0, 0, 60, 0, 0);
        }
        winIs(x, 3, 0, 0, 4, 1, 1, 0);
        winIs(x, 3, 0, 0, 5, 0, 1, 0);
        winIs(x, 3, 1, 0, 2, 1, 1, 0);
        winIs(x, 3, 1, 0, 3, 0, 1, 0);
        winIs(x, 6, 1, 0, 6, 1, 1, 0);
        winIs(x, 5, 1, 0, 5, 0, 1, 0);
    }

    private static void likeActs() {
        QuoitBook x = new QuoitBook();
        x.act(0, 0, 60, 0, 0, 0, 0);
        x.act(0, 1, 0, 0, 30, 30, 0);
        x.act(0, 2, 0, 0, 30, 0, 30);
        winIs(x, 1, 0, 0, 1, 1, 2, 1);
        winIs(x, 1, 0, 0, 2, 1, 2, 2);
        winIs(x, 1, 0, 9, -9, 1, 1, 0);
        winIs(x, 1, 0, -9, 9, 0, 1, 0);
    }

    private static void deepEnds() {
        QuoitBook x = new QuoitBook();
        winIs(x, 2, 0, 0, 0, 7, 12, 2);
        winIs(x, 6, 1, -2, 1, 3599, 15552, 0);
        for (int act = 0; act < 3; act++) {
            x.act(0, act, 0, 1, 0, 0, 59);
            x.act(1, act, 0, 0, 0, 59, 1);
        }
        // Six throws that must all go well: 59 to the 6th out of 60 to the 6th.
        winIs(x, 6, 0, 0, 3, 42180533641L, 46656000000L, 0);
    }
}
