/** Holds answers against those that are due, and counts the wrong ones. */
final class Due {
    private static int wrong = 0;
    private static int held = 0;

    private Due() {
    }

    static void due(String call, long got, long want) {
        held++;
        if (got != want) {
            wrong++;
            System.out.println(call + " answered " + got + ", due is " + want);
        }
    }

    /** Feeds a text, eight bytes at a time: the bytes are the low ones of its signs. */
    static void feed(QuoitBook book, String text) {
        int before = book.count(6);
        for (int from = 0; from < text.length(); from += 8) {
            String part = text.substring(from, Math.min(text.length(), from + 8));
            long bytes = 0;
            for (int k = 0; k < part.length(); k++) {
                bytes = bytes << 8 | part.charAt(k) & 255;
            }
            due("feed '" + part + "'", book.feed(part.length(), bytes), before + from + part.length());
        }
    }

    static void rule(QuoitBook book, int village, String text, int answer, int fault) {
        feed(book, text);
        due("rule(" + village + ") of '" + text + "'", book.rule(village), answer);
        due("fault() of '" + text + "'", book.fault(), fault);
        due("count(6) behind rule() of '" + text + "'", book.count(6), 0);
    }

    static void order(QuoitBook book, String text, int answer, int fault) {
        feed(book, text);
        due("order() of '" + text + "'", book.order(), answer);
        due("fault() of '" + text + "'", book.fault(), fault);
        due("count(6) behind order() of '" + text + "'", book.count(6), 0);
    }

    static void finish() {
        System.out.println(wrong == 0 ? held + " answers are as due" : wrong + " answers are not as due");
        if (wrong != 0) {
            System.exit(1);
        }
    }
}
