import java.util.Random;

/** Long random runs: every answer of QuoitBook is held against that of Model. */
public final class RandomTest {
    private static final String[] RULE_PARTS = {"ringer", "near", "most", "measure", "game", "cancel", "down", "under",
        "none", "pairs", "top", "yes", "no", "0", "1", "2", "5", "9", "10", "12", "20", "21", "99", "100", "05", ";", ";",
        ";", " ", " ", " ", "x", "A", "table"};
    private static final String[] ORDER_PARTS = {"table", "won", "diff", "for", "met"};
    private static final int[] FAR = {Integer.MIN_VALUE, -10000, -1000, -601, -100, -10, -1, 0, 1, 2, 10, 13, 24, 40, 61,
        100, 601, 10000, Integer.MAX_VALUE};

    private final Random random;
    private final int run;
    private final QuoitBook book = new QuoitBook();
    private final Model model = new Model();
    private int left = 512;

    private RandomTest(int run) {
        this.run = run;
        random = new Random(run);
    }

    public static void main(String[] args) {
        int runs = args.length > 0 ? Integer.parseInt(args[0]) : 200;
        for (int run = 0; run < runs; run++) {
            new RandomTest(run).play();
        }
        Due.finish();
    }

    private void play() {
        int kind = random.nextInt(5);
        while (left > 0) {
            switch (random.nextInt(4) == 0 ? random.nextInt(5) : kind) {
                case 0: clay(); break;
                case 1: rules(); break;
                case 2: measures(); break;
                case 3: lastEnd(); break;
                default: book();
            }
        }
    }

    private void due(String call, long got, long want) {
        left--;
        Due.due("run " + run + ", call " + (511 - left) + ": " + call, got, want);
    }

    /** From low to high as a rule; seldom one beyond it, and more seldom anything. */
    private int pick(int low, int high) {
        int dice = random.nextInt(60);
        if (dice == 0) {
            return FAR[random.nextInt(FAR.length)];
        }
        if (dice == 1) {
            return random.nextBoolean() ? low - 1 : high + 1;
        }
        return low + random.nextInt(high - low + 1);
    }

    private int quoit() {
        return pick(0, Math.max(0, model.count(0) - 1));
    }

    private int game() {
        return pick(0, Math.max(0, model.count(4) - 1));
    }

    private int place() {
        int reach = random.nextInt(3) == 0 ? 600 : random.nextBoolean() ? 120 : 20;
        return pick(-reach, reach);
    }

    private void clay() {
        int dice = random.nextInt(20);
        if (dice == 0 && random.nextInt(4) == 0) {
            due("rake()", book.rake(), model.rake());
        } else if (dice < 6) {
            iron();
        } else if (dice < 8) {
            int i = quoit();
            int x = place();
            int y = place();
            due("knock(" + i + ", " + x + ", " + y + ")", book.knock(i, x, y), model.knock(i, x, y));
        } else if (dice == 8) {
            int i = quoit();
            due("off(" + i + ")", book.off(i), model.off(i));
        } else if (dice < 14) {
            int i = quoit();
            int what = pick(0, 9);
            due("told(" + i + ", " + what + ")", book.told(i, what), model.told(i, what));
        } else if (dice < 18) {
            int i = quoit();
            int j = quoit();
            int k = random.nextInt(8) == 0 ? pick(-9999, 9999) : pick(-60, 60);
            due("nearer(" + i + ", " + j + ", " + k + ")", book.nearer(i, j, k), model.nearer(i, j, k));
        } else {
            int what = pick(0, 9);
            due("count(" + what + ")", book.count(what), model.count(what));
        }
    }

    private void iron() {
        int side = pick(0, 1);
        int x = place();
        int y = place();
        int size = pick(2, 60);
        int hole = pick(1, size > 2 && size <= 60 ? size - 1 : 1);
        int lift = pick(0, 9);
        boolean up = random.nextBoolean();
        due("iron(" + side + ", " + x + ", " + y + ", " + size + ", " + hole + ", " + lift + ", " + up + ")",
                book.iron(side, x, y, size, hole, lift, up), model.iron(side, x, y, size, hole, lift, up));
    }

    private void feedAll(String text) {
        for (int from = 0; from < text.length(); from += 8) {
            String part = text.substring(from, Math.min(text.length(), from + 8));
            long bytes = random.nextLong();
            for (int k = 0; k < part.length(); k++) {
                bytes = bytes << 8 | part.charAt(k) & 255;
            }
            due("feed '" + part + "'", book.feed(part.length(), bytes), model.feed(part.length(), bytes));
        }
    }

    private String blanks(int least) {
        return " ".repeat(least + (random.nextInt(4) == 0 ? random.nextInt(3) : 0));
    }

    private String soundRule() {
        StringBuilder text = new StringBuilder();
        int told = 0;
        for (int n = random.nextInt(8); n > 0; n--) {
            int clause = random.nextInt(8);
            if ((told >> clause & 1) == 0 || random.nextInt(30) == 0) {
                told |= 1 << clause;
                text.append(blanks(0)).append(RULE_PARTS[clause]).append(blanks(1)).append(valueOf(clause));
                text.append(blanks(0)).append(';');
            }
        }
        return text.append(blanks(0)).toString();
    }

    private String valueOf(int clause) {
        if (clause == 5) {
            return RULE_PARTS[8 + random.nextInt(3)];
        }
        if (clause > 5) {
            return RULE_PARTS[11 + random.nextInt(2)];
        }
        int[] high = {9, 9, 12, 20, 40};
        int[] low = {0, 0, 1, 0, 1};
        return Integer.toString(Math.abs(pick(low[clause], high[clause]) % 1000));
    }

    private String garbled(String text) {
        StringBuilder b = new StringBuilder(text);
        if (b.length() > 0 && random.nextBoolean()) {
            b.deleteCharAt(random.nextInt(b.length()));
        }
        if (random.nextBoolean()) {
            b.insert(random.nextInt(b.length() + 1), RULE_PARTS[random.nextInt(RULE_PARTS.length)]);
        }
        if (b.length() > 0 && random.nextInt(6) == 0) {
            b.setCharAt(random.nextInt(b.length()), (char) random.nextInt(256));
        }
        return b.toString();
    }

    private void rules() {
        int dice = random.nextInt(12);
        int village = pick(0, 5);
        if (dice < 3) {
            String text = soundRule();
            feedAll(random.nextInt(3) == 0 ? garbled(text) : text);
            due("rule(" + village + ")", book.rule(village), model.rule(village));
            due("fault()", book.fault(), model.fault());
        } else if (dice == 3) {
            int n = pick(1, 8);
            long bytes = random.nextInt(3) == 0 ? random.nextLong() : 0x2020202020202020L;
            due("feed(" + n + ", " + bytes + ")", book.feed(n, bytes), model.feed(n, bytes));
        } else if (dice == 4) {
            int what = pick(0, 7);
            due("says(" + village + ", " + what + ")", book.says(village, what), model.says(village, what));
        } else if (dice < 8) {
            clay();
        } else {
            int what = pick(0, 5);
            due("score(" + village + ", " + what + ")", book.score(village, what), model.score(village, what));
        }
    }

    private void measures() {
        int dice = random.nextInt(12);
        int i = quoit();
        if (dice < 4) {
            int man = pick(0, 2);
            int near = Math.max(0, model.told(i, 5)) * 10;
            int low = Math.max(0, near + random.nextInt(200) - 100);
            int high = low + pick(0, 150);
            due("measure(" + i + ", " + man + ", " + low + ", " + high + ")",
                    book.measure(i, man, low, high), model.measure(i, man, low, high));
        } else if (dice == 4) {
            int what = pick(0, 1);
            due("known(" + i + ", " + what + ")", book.known(i, what), model.known(i, what));
        } else if (dice < 7) {
            clay();
        } else if (dice == 7) {
            rules();
        } else {
            int village = pick(0, 5);
            int what = pick(0, 2);
            due("sure(" + village + ", " + what + ")", book.sure(village, what), model.sure(village, what));
        }
    }

    private void lastEnd() {
        if (random.nextInt(3) == 0) {
            int[] w = new int[5];
            int rest = 60;
            for (int k = 0; k < 4; k++) {
                w[k] = random.nextBoolean() ? 0 : random.nextInt(rest + 1);
                rest -= w[k];
            }
            w[4] = random.nextInt(20) == 0 ? rest - 1 : rest;
            int side = pick(0, 1);
            int act = pick(0, 2);
            due("act(" + side + ", " + act + ", ..)", book.act(side, act, w[0], w[1], w[2], w[3], w[4]),
                    model.act(side, act, w[0], w[1], w[2], w[3], w[4]));
            return;
        }
        int n = pick(0, 6);
        int side = pick(0, 1);
        int lead = pick(-9, 9);
        int need = random.nextInt(4) == 0 ? pick(-9, 9) : Math.max(-9, Math.min(9, lead + random.nextInt(5) - 2));
        int what = pick(0, 2);
        due("win(" + n + ", " + side + ", " + lead + ", " + need + ", " + what + ")",
                book.win(n, side, lead, need, what), model.win(n, side, lead, need, what));
    }

    private void book() {
        int dice = random.nextInt(24);
        int m = game();
        int village = pick(0, 5);
        if (dice < 2) {
            int away = pick(0, 5);
            int mode = pick(0, 2);
            due("match(" + village + ", " + away + ", " + mode + ")",
                    book.match(village, away, mode), model.match(village, away, mode));
        } else if (dice < 9) {
            int score = random.nextInt(6) == 0 ? pick(-99, 99) : pick(-9, 9);
            due("end(" + m + ", " + score + ")", book.end(m, score), model.end(m, score));
        } else if (dice < 11) {
            int end = pick(0, Math.max(0, model.about(m, 3) - 1));
            int score = pick(-12, 12);
            due("mend(" + m + ", " + end + ", " + score + ")", book.mend(m, end, score), model.mend(m, end, score));
        } else if (dice == 11) {
            due("dusk(" + m + ")", book.dusk(m), model.dusk(m));
        } else if (dice < 15) {
            int what = pick(0, 7);
            due("about(" + m + ", " + what + ")", book.about(m, what), model.about(m, what));
        } else if (dice < 19) {
            int what = random.nextBoolean() ? 7 : pick(0, 7);
            due("standing(" + village + ", " + what + ")", book.standing(village, what), model.standing(village, what));
        } else if (dice < 22) {
            int what = pick(0, 1);
            due("reach(" + village + ", " + what + ")", book.reach(village, what), model.reach(village, what));
        } else if (dice == 22) {
            newOrder();
        } else {
            rules();
        }
    }

    private void newOrder() {
        StringBuilder text = new StringBuilder();
        int told = 0;
        for (int n = 1 + random.nextInt(5); n > 0; n--) {
            int word = random.nextInt(5);
            if ((told >> word & 1) == 0 || random.nextInt(8) == 0) {
                told |= 1 << word;
                text.append(blanks(text.length() == 0 ? 0 : 1)).append(ORDER_PARTS[word]);
            }
        }
        if (random.nextInt(10) == 0) {
            text.insert(random.nextInt(text.length() + 1), " ".repeat(40 + random.nextInt(30)));
        }
        feedAll(random.nextInt(5) == 0 ? garbled(text.toString()) : text.toString());
        due("order()", book.order(), model.order());
        due("fault()", book.fault(), model.fault());
    }
}
