/** A new QuoitBook that remembers the latest call and how many there were: the document lets 512 be made. */
final class Calls {
    private static final int MOST = 512;

    private final QuoitBook book = new QuoitBook();
    private int made = 0;
    private String name = "new";
    private Object[] with = {};

    /** The latest call, as one would write it. */
    String latest() {
        StringBuilder text = new StringBuilder(name).append('(');
        for (int k = 0; k < with.length; k++) {
            text.append(k == 0 ? "" : ", ").append(with[k]);
        }
        return text.append(')').toString();
    }

    int made() {
        return made;
    }

    private void noteCall(String call, Object... arguments) {
        name = call;
        with = arguments;
        made++;
        if (made == MOST + 1) {
            Due.due("calls of one object in " + Edge.current(), made, MOST);
        }
    }

    /** Feeds a text, eight bytes at a time: the bytes are the low ones of its signs. */
    void feedAll(String text) {
        for (int from = 0; from < text.length(); from += 8) {
            String part = text.substring(from, Math.min(text.length(), from + 8));
            feed(part.length(), bytesOf(part));
        }
    }

    static long bytesOf(String part) {
        long bytes = 0;
        for (int k = 0; k < part.length(); k++) {
            bytes = bytes << 8 | part.charAt(k) & 255;
        }
        return bytes;
    }

    int rake() {
        noteCall("rake");
        return book.rake();
    }

    int iron(int side, int x, int y, int size, int hole, int lift, boolean up) {
        noteCall("iron", side, x, y, size, hole, lift, up);
        return book.iron(side, x, y, size, hole, lift, up);
    }

    int knock(int i, int x, int y) {
        noteCall("knock", i, x, y);
        return book.knock(i, x, y);
    }

    int off(int i) {
        noteCall("off", i);
        return book.off(i);
    }

    int told(int i, int what) {
        noteCall("told", i, what);
        return book.told(i, what);
    }

    int nearer(int i, int j, int k) {
        noteCall("nearer", i, j, k);
        return book.nearer(i, j, k);
    }

    int count(int what) {
        noteCall("count", what);
        return book.count(what);
    }

    int feed(int n, long bytes) {
        noteCall("feed", n, bytes);
        return book.feed(n, bytes);
    }

    int rule(int village) {
        noteCall("rule", village);
        return book.rule(village);
    }

    int fault() {
        noteCall("fault");
        return book.fault();
    }

    int says(int village, int what) {
        noteCall("says", village, what);
        return book.says(village, what);
    }

    int score(int village, int what) {
        noteCall("score", village, what);
        return book.score(village, what);
    }

    int measure(int i, int man, int low, int high) {
        noteCall("measure", i, man, low, high);
        return book.measure(i, man, low, high);
    }

    int known(int i, int what) {
        noteCall("known", i, what);
        return book.known(i, what);
    }

    int sure(int village, int what) {
        noteCall("sure", village, what);
        return book.sure(village, what);
    }

    int act(int side, int act, int a, int b, int c, int d, int e) {
        noteCall("act", side, act, a, b, c, d, e);
        return book.act(side, act, a, b, c, d, e);
    }

    long win(int n, int side, int lead, int need, int what) {
        noteCall("win", n, side, lead, need, what);
        return book.win(n, side, lead, need, what);
    }

    int match(int home, int away, int mode) {
        noteCall("match", home, away, mode);
        return book.match(home, away, mode);
    }

    int end(int m, int score) {
        noteCall("end", m, score);
        return book.end(m, score);
    }

    int mend(int m, int end, int score) {
        noteCall("mend", m, end, score);
        return book.mend(m, end, score);
    }

    int dusk(int m) {
        noteCall("dusk", m);
        return book.dusk(m);
    }

    int about(int m, int what) {
        noteCall("about", m, what);
        return book.about(m, what);
    }

    int standing(int village, int what) {
        noteCall("standing", village, what);
        return book.standing(village, what);
    }

    int order() {
        noteCall("order");
        return book.order();
    }

    int reach(int village, int what) {
        noteCall("reach", village, what);
        return book.reach(village, what);
    }
}
