import java.math.BigDecimal;
import java.math.BigInteger;
import java.math.MathContext;
import java.math.RoundingMode;
import java.util.ArrayList;
import java.util.Arrays;
import java.util.List;
import java.util.Map;
import java.util.TreeMap;

/** A second program for the same document: slow, with the Java library, and written in another way. */
final class Model {
    private static final int NONE = -1, UNKNOWN = -1001, OUTSIDE = -1002, NOT = -1003, FULL = -1004, LARGE = -1005;
    private static final MathContext DIGITS = new MathContext(80, RoundingMode.HALF_EVEN);
    private static final BigDecimal TINY = BigDecimal.ONE.movePointLeft(50);
    private static final List<String> CLAUSES =
            List.of("ringer", "near", "most", "measure", "game", "cancel", "down", "under");
    private static final int[][] BOUNDS = {{0, 9}, {0, 9}, {1, 12}, {0, 20}, {1, 99}};
    private static final List<String> WORDS = List.of("table", "won", "diff", "for", "met");

    private static final class Quoit {
        int side, x, y, size, hole, lift;
        boolean up, off;
        final Map<Integer, int[]> spans = new TreeMap<>();

        boolean ringer() {
            return x * x + y * y < hole * hole;
        }

        BigDecimal nearness() {
            BigDecimal root = new BigDecimal(x * x + y * y).sqrt(DIGITS);
            return root.subtract(new BigDecimal(size)).max(BigDecimal.ZERO).add(new BigDecimal(lift));
        }

        int low() {
            return spans.values().stream().mapToInt(s -> s[0]).max().orElse(NONE);
        }

        int high() {
            return spans.values().stream().mapToInt(s -> s[1]).min().orElse(NONE);
        }

        boolean disputed() {
            return low() > high();
        }
    }

    private static final class Game {
        int home, away, mode;
        boolean dusk;
        final List<Integer> ends = new ArrayList<>();
    }

    private final List<Quoit> quoits = new ArrayList<>();
    private final List<Game> games = new ArrayList<>();
    private final List<Map<String, Integer>> laws = new ArrayList<>();
    private List<String> ranking = List.of("table");
    private String text = "";
    private int faultAt = NONE;
    private final int[][][] acts = new int[2][][];

    Model() {
        for (int v = 0; v < 6; v++) {
            laws.add(firstLaw());
        }
        for (int s = 0; s < 2; s++) {
            acts[s] = new int[][] {{0, 10, 20, 20, 10}, {0, 0, 40, 20, 0}, {20, 0, 10, 0, 30}};
        }
    }

    private static Map<String, Integer> firstLaw() {
        Map<String, Integer> law = new TreeMap<>();
        int[] first = {2, 1, 12, 0, 21, 1, 1, 1};
        for (int k = 0; k < 8; k++) {
            law.put(CLAUSES.get(k), first[k]);
        }
        return law;
    }

    private static boolean out(int n, int low, int high) {
        return n < low || n > high;
    }

    int rake() {
        int n = quoits.size();
        quoits.clear();
        return n;
    }

    int iron(int side, int x, int y, int size, int hole, int lift, boolean up) {
        if (out(side, 0, 1) || out(x, -600, 600) || out(y, -600, 600) || out(size, 2, 60) || out(lift, 0, 9)
                || hole < 1 || hole >= size) {
            return OUTSIDE;
        }
        if (quoits.size() == 12) {
            return FULL;
        }
        Quoit q = new Quoit();
        q.side = side;
        q.x = x;
        q.y = y;
        q.size = size;
        q.hole = hole;
        q.lift = lift;
        q.up = up;
        quoits.add(q);
        return quoits.size() - 1;
    }

    private boolean noQuoit(int i) {
        return i < 0 || i >= quoits.size();
    }

    int knock(int i, int x, int y) {
        if (noQuoit(i)) {
            return UNKNOWN;
        }
        if (out(x, -600, 600) || out(y, -600, 600)) {
            return OUTSIDE;
        }
        Quoit q = quoits.get(i);
        if (q.off) {
            return NOT;
        }
        q.x = x;
        q.y = y;
        q.spans.clear();
        return 1;
    }

    int off(int i) {
        if (noQuoit(i)) {
            return UNKNOWN;
        }
        if (quoits.get(i).off) {
            return NOT;
        }
        quoits.get(i).off = true;
        return 1;
    }

    private boolean on(int b, int a) {
        Quoit p = quoits.get(a);
        Quoit q = quoits.get(b);
        long d = (long) (p.x - q.x) * (p.x - q.x) + (long) (p.y - q.y) * (p.y - q.y);
        return b > a && !p.off && !q.off && d < (long) (p.size + q.size) * (p.size + q.size);
    }

    int told(int i, int what) {
        if (noQuoit(i)) {
            return UNKNOWN;
        }
        if (out(what, 0, 9)) {
            return OUTSIDE;
        }
        Quoit q = quoits.get(i);
        int above = 0;
        int below = 0;
        for (int k = 0; k < quoits.size(); k++) {
            above += on(k, i) ? 1 << k : 0;
            below += on(i, k) ? 1 << k : 0;
        }
        int near = q.ringer() ? NONE : q.nearness().setScale(0, RoundingMode.FLOOR).intValue();
        int[] all = {q.side, q.x, q.y, q.x * q.x + q.y * q.y, q.ringer() ? 1 : 0, near, q.off ? 1 : 0, above, below,
            q.up ? 1 : 0};
        return all[what];
    }

    private static int compare(BigDecimal a, BigDecimal b) {
        BigDecimal d = a.subtract(b);
        return d.abs().compareTo(TINY) < 0 ? 0 : d.signum();
    }

    int nearer(int i, int j, int k) {
        if (noQuoit(i) || noQuoit(j)) {
            return UNKNOWN;
        }
        if (out(k, -9999, 9999)) {
            return OUTSIDE;
        }
        if (quoits.get(i).ringer() || quoits.get(j).ringer()) {
            return NOT;
        }
        return compare(quoits.get(i).nearness().add(new BigDecimal(k)), quoits.get(j).nearness());
    }

    int count(int what) {
        switch (what) {
            case 0: return quoits.size();
            case 1: return (int) quoits.stream().filter(q -> q.off).count();
            case 2: case 3: return (int) quoits.stream().filter(q -> !q.off && q.ringer() && q.side == what - 2).count();
            case 4: return games.size();
            case 5: return (int) games.stream().filter(g -> result(g)[3] == 0).count();
            case 6: return text.length();
            case 7: return ranking.size();
            case 8: return (int) quoits.stream().filter(q -> !q.spans.isEmpty()).count();
            case 9: return (int) quoits.stream().filter(Quoit::disputed).count();
            default: return OUTSIDE;
        }
    }

    int feed(int n, long bytes) {
        if (out(n, 1, 8)) {
            return OUTSIDE;
        }
        if (text.length() + n > 100) {
            return FULL;
        }
        StringBuilder more = new StringBuilder();
        for (int k = 0; k < n; k++) {
            more.insert(0, (char) (bytes & 255));
            bytes >>= 8;
        }
        text += more;
        return text.length();
    }

    /** A token: its first byte and its signs; letters, figures, or one other sign. */
    private record Token(int at, String signs) {
        boolean word() {
            return signs.matches("[a-z]+");
        }

        boolean figures() {
            return signs.matches("[0-9]+");
        }
    }

    private static List<Token> tokens(String t) {
        List<Token> all = new ArrayList<>();
        java.util.regex.Matcher m =
                java.util.regex.Pattern.compile("[a-z]+|[0-9]+|[^ ]", java.util.regex.Pattern.DOTALL).matcher(t);
        while (m.find()) {
            all.add(new Token(m.start(), m.group()));
        }
        return all;
    }

    /** The fault's byte and number, or null; the law is filled as far as it goes. */
    private static int[] readLaw(String t, Map<String, Integer> law, List<String> said) {
        int step = 0;
        String clause = "";
        for (Token token : tokens(t)) {
            int[] one = {token.at, 1};
            if (step == 0) {
                clause = token.signs;
                if (!CLAUSES.contains(clause)) {
                    return one;
                }
                if (said.contains(clause)) {
                    return new int[] {token.at, 3};
                }
                said.add(clause);
            } else if (step == 1) {
                int k = CLAUSES.indexOf(clause);
                if (k < 5) {
                    if (!token.figures()) {
                        return one;
                    }
                    BigInteger n = new BigInteger(token.signs);
                    if (token.signs.length() > 2 || out(n.intValue(), BOUNDS[k][0], BOUNDS[k][1])) {
                        return new int[] {token.at, 2};
                    }
                    law.put(clause, n.intValue());
                } else {
                    List<String> choices = k == 5 ? List.of("none", "pairs", "top") : List.of("no", "yes");
                    if (!choices.contains(token.signs)) {
                        return one;
                    }
                    law.put(clause, choices.indexOf(token.signs));
                }
            } else if (!token.signs.equals(";")) {
                return one;
            }
            step = (step + 1) % 3;
        }
        return step == 0 ? null : new int[] {t.length(), 1};
    }

    int rule(int village) {
        if (out(village, 0, 5)) {
            return UNKNOWN;
        }
        Map<String, Integer> law = firstLaw();
        List<String> said = new ArrayList<>();
        int[] bad = readLaw(text, law, said);
        text = "";
        faultAt = bad == null ? NONE : bad[0];
        if (bad != null) {
            return -10 - bad[1];
        }
        laws.set(village, law);
        return said.size();
    }

    int fault() {
        return faultAt;
    }

    int says(int village, int what) {
        if (out(village, 0, 5)) {
            return UNKNOWN;
        }
        return out(what, 0, 7) ? OUTSIDE : laws.get(village).get(CLAUSES.get(what));
    }

    private boolean counts(int i, Map<String, Integer> law) {
        Quoit q = quoits.get(i);
        if (q.off || law.get("down") == 0 && !q.up) {
            return false;
        }
        for (int k = 0; k < quoits.size(); k++) {
            if (law.get("under") == 0 && on(k, i) && quoits.get(k).side != q.side) {
                return false;
            }
        }
        return true;
    }

    /** All six answers of score(), by these nearnesses. */
    private int[] scores(Map<String, Integer> law, BigDecimal[] near) {
        List<List<Integer>> ringers = List.of(new ArrayList<>(), new ArrayList<>());
        List<List<Integer>> others = List.of(new ArrayList<>(), new ArrayList<>());
        int counting = 0;
        for (int i = 0; i < quoits.size(); i++) {
            if (counts(i, law)) {
                counting |= 1 << i;
                Quoit q = quoits.get(i);
                (q.ringer() ? ringers : others).get(q.side).add(i);
            }
        }
        int[] points = new int[2];
        int paid = 0;
        int ahead = 0;
        int last = -1;
        for (List<Integer> l : ringers) {
            for (int i : l) {
                last = Math.max(last, i);
            }
        }
        for (int s = 0; s < 2; s++) {
            List<Integer> own = ringers.get(s);
            int pairs = Math.min(own.size(), ringers.get(1 - s).size());
            for (int at = 0; at < own.size(); at++) {
                boolean gives = law.get("cancel") == 0 || law.get("cancel") == 1 && at >= pairs
                        || law.get("cancel") == 2 && own.get(at) == last;
                if (gives) {
                    paid |= 1 << own.get(at);
                    points[s] += law.get("ringer");
                }
            }
            int taken = 0;
            for (int i : others.get(s)) {
                boolean all = true;
                for (int j : others.get(1 - s)) {
                    all &= compare(near[i].add(new BigDecimal(law.get("measure"))), near[j]) < 0;
                }
                if (all && taken < law.get("most")) {
                    taken++;
                    ahead |= 1 << i;
                    points[s] += law.get("near");
                }
            }
        }
        return new int[] {points[0] - points[1], points[0], points[1], counting, paid, ahead};
    }

    private BigDecimal[] nearnesses() {
        return quoits.stream().map(Quoit::nearness).toArray(BigDecimal[]::new);
    }

    int score(int village, int what) {
        if (out(village, 0, 5)) {
            return UNKNOWN;
        }
        return out(what, 0, 5) ? OUTSIDE : scores(laws.get(village), nearnesses())[what];
    }

    int measure(int i, int man, int low, int high) {
        if (noQuoit(i)) {
            return UNKNOWN;
        }
        if (out(man, 0, 2) || out(low, 0, 9999) || out(high, 0, 9999) || low > high) {
            return OUTSIDE;
        }
        Quoit q = quoits.get(i);
        if (q.off || q.ringer()) {
            return NOT;
        }
        q.spans.put(man, new int[] {low, high});
        return q.spans.size();
    }

    int known(int i, int what) {
        if (noQuoit(i)) {
            return UNKNOWN;
        }
        if (out(what, 0, 1)) {
            return OUTSIDE;
        }
        Quoit q = quoits.get(i);
        return q.disputed() ? NONE : what == 0 ? q.low() : q.high();
    }

    /** Tries every iron with a span at its low, its high and its middle, one with another. */
    int sure(int village, int what) {
        if (out(village, 0, 5)) {
            return UNKNOWN;
        }
        if (out(what, 0, 2)) {
            return OUTSIDE;
        }
        Map<String, Integer> law = laws.get(village);
        List<Integer> measured = new ArrayList<>();
        for (int i = 0; i < quoits.size(); i++) {
            if (counts(i, law) && !quoits.get(i).spans.isEmpty()) {
                if (quoits.get(i).disputed()) {
                    return NOT;
                }
                measured.add(i);
            }
        }
        // The middle is tried as well while that is cheap: extremes need not lie at the spans' ends by themselves.
        int choices = measured.size() <= 5 ? 3 : 2;
        int ways = (int) Math.pow(choices, measured.size());
        int least = Integer.MAX_VALUE;
        int greatest = Integer.MIN_VALUE;
        for (int way = 0; way < ways; way++) {
            BigDecimal[] near = nearnesses();
            int rest = way;
            for (int i : measured) {
                Quoit q = quoits.get(i);
                int twentieths = List.of(2 * q.low(), 2 * q.high(), q.low() + q.high()).get(rest % choices);
                near[i] = new BigDecimal(twentieths).divide(new BigDecimal(20));
                rest /= choices;
            }
            int score = scores(law, near)[0];
            least = Math.min(least, score);
            greatest = Math.max(greatest, score);
        }
        return what == 0 ? least : what == 1 ? greatest : least == greatest ? 1 : 0;
    }

    int act(int side, int act, int a, int b, int c, int d, int e) {
        int[] w = {a, b, c, d, e};
        long sum = 0;
        boolean bad = out(side, 0, 1) || out(act, 0, 2);
        for (int n : w) {
            bad |= out(n, 0, 60);
            sum += n;
        }
        if (bad || sum != 60) {
            return OUTSIDE;
        }
        acts[side][act] = w;
        return 1;
    }

    private Map<List<Integer>, BigInteger> seen = new java.util.HashMap<>();

    private BigInteger chance(int n, int side, int lead, int need) {
        if (n == 0) {
            return lead >= need ? BigInteger.ONE : BigInteger.ZERO;
        }
        List<Integer> key = List.of(n, side, lead);
        BigInteger known = seen.get(key);
        if (known == null) {
            known = byAct(n, side, lead, need, bestAct(n, side, lead, need));
            seen.put(key, known);
        }
        return known;
    }

    private BigInteger byAct(int n, int side, int lead, int need, int act) {
        BigInteger sum = BigInteger.ZERO;
        for (int k = -2; k <= 2; k++) {
            int next = lead + (side == 0 ? k : -k);
            next = next > 9 ? 9 : next < -9 ? -9 : next;
            sum = sum.add(chance(n - 1, 1 - side, next, need).multiply(BigInteger.valueOf(acts[side][act][k + 2])));
        }
        return sum;
    }

    private int bestAct(int n, int side, int lead, int need) {
        int best = 0;
        for (int act = 1; act < 3; act++) {
            int c = byAct(n, side, lead, need, act).compareTo(byAct(n, side, lead, need, best));
            if (side == 0 ? c > 0 : c < 0) {
                best = act;
            }
        }
        return best;
    }

    long win(int n, int side, int lead, int need, int what) {
        if (out(n, 0, 6) || out(side, 0, 1) || out(lead, -9, 9) || out(need, -9, 9) || out(what, 0, 2)) {
            return OUTSIDE;
        }
        seen.clear();
        if (what == 2) {
            return n == 0 ? NONE : bestAct(n, side, lead, need);
        }
        BigInteger upper = chance(n, side, lead, need);
        BigInteger lower = BigInteger.valueOf(60).pow(n);
        BigInteger common = upper.gcd(lower);
        return (what == 0 ? upper : lower).divide(common).longValueExact();
    }

    int match(int home, int away, int mode) {
        if (out(home, 0, 5) || out(away, 0, 5)) {
            return UNKNOWN;
        }
        if (out(mode, 0, 2) || home == away) {
            return OUTSIDE;
        }
        if (games.size() == 24) {
            return FULL;
        }
        Game g = new Game();
        g.home = home;
        g.away = away;
        g.mode = mode;
        games.add(g);
        return games.size() - 1;
    }

    /** Ends that count, points of home and away, and how it stands. */
    private int[] result(Game g) {
        int home = 0;
        int away = 0;
        for (int e = 0; e < g.ends.size(); e++) {
            home += Math.max(0, g.ends.get(e));
            away += Math.max(0, -g.ends.get(e));
            int village = g.mode == 0 ? g.home : g.mode == 1 ? g.away : e % 2 == 0 ? g.home : g.away;
            int game = laws.get(village).get("game");
            if (home >= game && home > away) {
                return new int[] {e + 1, home, away, 1};
            }
            if (away >= game && away > home) {
                return new int[] {e + 1, home, away, 2};
            }
        }
        int state = !g.dusk ? 0 : home > away ? 1 : home < away ? 2 : 3;
        return new int[] {g.ends.size(), home, away, state};
    }

    private boolean noGame(int m) {
        return m < 0 || m >= games.size();
    }

    int end(int m, int score) {
        if (noGame(m)) {
            return UNKNOWN;
        }
        if (out(score, -99, 99)) {
            return OUTSIDE;
        }
        if (result(games.get(m))[3] != 0) {
            return NOT;
        }
        if (games.get(m).ends.size() == 40) {
            return FULL;
        }
        games.get(m).ends.add(score);
        return games.get(m).ends.size() - 1;
    }

    int mend(int m, int end, int score) {
        if (noGame(m) || end < 0 || end >= games.get(m).ends.size()) {
            return UNKNOWN;
        }
        return out(score, -99, 99) ? OUTSIDE : games.get(m).ends.set(end, score);
    }

    int dusk(int m) {
        if (noGame(m)) {
            return UNKNOWN;
        }
        if (result(games.get(m))[3] != 0) {
            return NOT;
        }
        games.get(m).dusk = true;
        return 1;
    }

    int about(int m, int what) {
        if (noGame(m)) {
            return UNKNOWN;
        }
        Game g = games.get(m);
        int[] r = result(g);
        int[] all = {g.home, g.away, g.mode, g.ends.size(), r[0], r[1], r[2], r[3]};
        return out(what, 0, 7) ? OUTSIDE : all[what];
    }

    /** Matches, won, drawn, lost, for, against, table: in the matches among these villages. */
    private int[] sums(int village, List<Integer> among) {
        int[] s = new int[7];
        for (Game g : games) {
            if (!among.contains(g.home) || !among.contains(g.away) || g.home != village && g.away != village) {
                continue;
            }
            int[] r = result(g);
            boolean home = g.home == village;
            s[0]++;
            s[4] += home ? r[1] : r[2];
            s[5] += home ? r[2] : r[1];
            if (r[3] == 3) {
                s[2]++;
            } else if (r[3] != 0) {
                s[(r[3] == 1) == home ? 1 : 3]++;
            }
        }
        s[6] = 2 * s[1] + s[2];
        return s;
    }

    /** Parts a group of likes by the words from k on, best first. */
    private void part(List<Integer> group, int k, List<List<Integer>> parts) {
        if (k == ranking.size()) {
            parts.add(group);
            return;
        }
        List<Integer> all = List.of(0, 1, 2, 3, 4, 5);
        TreeMap<Integer, List<Integer>> byValue = new TreeMap<>(java.util.Comparator.reverseOrder());
        for (int v : group) {
            int[] s = sums(v, all);
            int value;
            switch (ranking.get(k)) {
                case "table": value = s[6]; break;
                case "won": value = s[1]; break;
                case "diff": value = s[4] - s[5]; break;
                case "for": value = s[4]; break;
                default: value = sums(v, group)[6];
            }
            byValue.computeIfAbsent(value, x -> new ArrayList<>()).add(v);
        }
        for (List<Integer> likes : byValue.values()) {
            part(likes, k + 1, parts);
        }
    }

    int standing(int village, int what) {
        if (out(village, 0, 5)) {
            return UNKNOWN;
        }
        if (out(what, 0, 7)) {
            return OUTSIDE;
        }
        if (what < 7) {
            return sums(village, List.of(0, 1, 2, 3, 4, 5))[what];
        }
        List<List<Integer>> parts = new ArrayList<>();
        part(List.of(0, 1, 2, 3, 4, 5), 0, parts);
        int place = 1;
        for (List<Integer> likes : parts) {
            if (likes.contains(village)) {
                break;
            }
            place += likes.size();
        }
        return place;
    }

    int order() {
        List<int[]> bad = new ArrayList<>();
        List<String> words = new ArrayList<>();
        for (Token token : tokens(text)) {
            if (!WORDS.contains(token.signs)) {
                bad.add(new int[] {token.at, 1});
            } else if (words.contains(token.signs)) {
                bad.add(new int[] {token.at, 3});
            } else {
                words.add(token.signs);
            }
        }
        if (words.isEmpty()) {
            bad.add(new int[] {text.length(), 1});
        }
        if (text.length() > 60) {
            bad.add(new int[] {60, 1});
        }
        text = "";
        bad.sort((a, b) -> a[0] != b[0] ? a[0] - b[0] : a[1] - b[1]);
        faultAt = bad.isEmpty() ? NONE : bad.get(0)[0];
        if (!bad.isEmpty()) {
            return -10 - bad.get(0)[1];
        }
        ranking = words;
        return words.size();
    }

    int reach(int village, int what) {
        if (out(village, 0, 5)) {
            return UNKNOWN;
        }
        if (out(what, 0, 1)) {
            return OUTSIDE;
        }
        List<Game> open = games.stream().filter(g -> result(g)[3] == 0).toList();
        if (open.size() > 6) {
            return LARGE;
        }
        int[] base = new int[6];
        for (int v = 0; v < 6; v++) {
            base[v] = sums(v, List.of(0, 1, 2, 3, 4, 5))[6];
        }
        int least = 7;
        int greatest = 0;
        for (int way = 0; way < Math.pow(3, open.size()); way++) {
            int[] table = base.clone();
            int rest = way;
            for (Game g : open) {
                table[g.home] += rest % 3;
                table[g.away] += 2 - rest % 3;
                rest /= 3;
            }
            int place = 1 + (int) Arrays.stream(table).filter(t -> t > table[village]).count();
            least = Math.min(least, place);
            greatest = Math.max(greatest, place);
        }
        return what == 0 ? least : greatest;
    }
}
