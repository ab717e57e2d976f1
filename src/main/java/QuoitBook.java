/**
 * A book of quoits: irons in the clay, villages' rules, measures, a last end, and matches.
 * Every public method is one promise of the document; a refused call changes nothing.
 */
public final class QuoitBook {
    public static final int NONE = -1, UNKNOWN = -1001, OUTSIDE = -1002, NOT = -1003, FULL = -1004, LARGE = -1005;

    private static final int VILLAGES = 6;
    private static final int MEN = 3;
    private static final int FARTHEST = 600;

    private final Clay clay;
    private final Text text;
    private final Rule[] rules;
    private final Rule ruleDraft;
    private final Tally tally;
    private final LastEnd lastEnd;
    private final Book book;
    private final Order orderDraft;

    public QuoitBook() {
        clay = new Clay();
        text = new Text();
        rules = new Rule[VILLAGES];
        for (int v = 0; v < VILLAGES; v++) {
            rules[v] = new Rule();
        }
        ruleDraft = new Rule();
        tally = new Tally();
        lastEnd = new LastEnd();
        book = new Book();
        orderDraft = new Order();
    }

    // ---- the clay

    public int rake() {
        int before = clay.laid;
        clay.laid = 0;
        return before;
    }

    public int iron(int side, int x, int y, int size, int hole, int lift, boolean up) {
        if (!within(side, 0, 1) || !isPlace(x, y) || !within(size, 2, 60)) {
            return OUTSIDE;
        }
        if (!within(hole, 1, size - 1) || !within(lift, 0, 9)) {
            return OUTSIDE;
        }
        if (clay.laid >= Clay.MOST_IRONS) {
            return FULL;
        }
        clay.irons[clay.laid].lay(side, x, y, size, hole, lift, up);
        clay.laid++;
        return clay.laid - 1;
    }

    public int knock(int i, int x, int y) {
        Iron iron = clay.find(i);
        if (iron == null) {
            return UNKNOWN;
        }
        if (!isPlace(x, y)) {
            return OUTSIDE;
        }
        if (iron.off) {
            return NOT;
        }
        iron.moveTo(x, y);
        return 1;
    }

    public int off(int i) {
        Iron iron = clay.find(i);
        if (iron == null) {
            return UNKNOWN;
        }
        if (iron.off) {
            return NOT;
        }
        iron.off = true;
        return 1;
    }

    public int told(int i, int what) {
        Iron iron = clay.find(i);
        if (iron == null) {
            return UNKNOWN;
        }
        switch (what) {
            case 0: return iron.side;
            case 1: return iron.x;
            case 2: return iron.y;
            case 3: return iron.square();
            case 4: return asNumber(iron.isRinger());
            case 5: return iron.isRinger() ? NONE : iron.cutNearness();
            case 6: return asNumber(iron.off);
            case 7: return clay.lyingOn(i);
            case 8: return clay.lyingUnder(i);
            case 9: return asNumber(iron.up);
            default: return OUTSIDE;
        }
    }

    public int nearer(int i, int j, int k) {
        Iron one = clay.find(i);
        Iron other = clay.find(j);
        if (one == null || other == null) {
            return UNKNOWN;
        }
        if (!within(k, -9999, 9999)) {
            return OUTSIDE;
        }
        if (one.isRinger() || other.isRinger()) {
            return NOT;
        }
        long own = one.tenths(Iron.ON_CLAY) + 10L * k;
        return compareSums(one.rootOf(Iron.ON_CLAY), own, other.rootOf(Iron.ON_CLAY), other.tenths(Iron.ON_CLAY));
    }

    public int count(int what) {
        switch (what) {
            case 0: return clay.laid;
            case 1: return clay.countOff();
            case 2: return clay.countRingers(0);
            case 3: return clay.countRingers(1);
            case 4: return book.made;
            case 5: return openMatches();
            case 6: return text.length;
            case 7: return book.order.length;
            case 8: return clay.countMeasured();
            case 9: return clay.countDisputed();
            default: return OUTSIDE;
        }
    }

    // ---- rules

    public int feed(int n, long bytes) {
        if (!within(n, 1, 8)) {
            return OUTSIDE;
        }
        if (text.length + n > Text.MOST_BYTES) {
            return FULL;
        }
        for (int k = n - 1; k >= 0; k--) {
            text.add((int) (bytes >>> (8 * k)) & 255);
        }
        return text.length;
    }

    public int rule(int village) {
        if (!isVillage(village)) {
            return UNKNOWN;
        }
        int clauses = ruleDraft.read(text);
        text.clear();
        if (!text.isSound()) {
            return -10 - text.faultKind;
        }
        rules[village].become(ruleDraft);
        return clauses;
    }

    public int fault() {
        return text.faultAt;
    }

    public int says(int village, int what) {
        if (!isVillage(village)) {
            return UNKNOWN;
        }
        if (!within(what, 0, Rule.CLAUSES - 1)) {
            return OUTSIDE;
        }
        return rules[village].values[what];
    }

    public int score(int village, int what) {
        if (!isVillage(village)) {
            return UNKNOWN;
        }
        if (!within(what, 0, 5)) {
            return OUTSIDE;
        }
        tally.work(clay, rules[village], NONE);
        switch (what) {
            case 0: return tally.difference();
            case 1: return tally.points[0];
            case 2: return tally.points[1];
            case 3: return tally.counting;
            case 4: return tally.payingRingers;
            default: return tally.payingAhead;
        }
    }

    // ---- measures

    public int measure(int i, int man, int low, int high) {
        Iron iron = clay.find(i);
        if (iron == null) {
            return UNKNOWN;
        }
        if (!within(man, 0, MEN - 1) || !within(low, 0, 9999) || !within(high, low, 9999)) {
            return OUTSIDE;
        }
        if (iron.isRinger() || iron.off) {
            return NOT;
        }
        iron.low[man] = low;
        iron.high[man] = high;
        return iron.countSpans();
    }

    public int known(int i, int what) {
        Iron iron = clay.find(i);
        if (iron == null) {
            return UNKNOWN;
        }
        if (!within(what, 0, 1)) {
            return OUTSIDE;
        }
        if (iron.countSpans() == 0 || iron.isDisputed()) {
            return NONE;
        }
        return what == 0 ? iron.knownLow() : iron.knownHigh();
    }

    public int sure(int village, int what) {
        if (!isVillage(village)) {
            return UNKNOWN;
        }
        if (!within(what, 0, 2)) {
            return OUTSIDE;
        }
        if (tally.disputedCounts(clay, rules[village])) {
            return NOT;
        }
        // A nearer iron never hurts its own side, so the extremes lie where all spans lean one way.
        tally.work(clay, rules[village], 1);
        int least = tally.difference();
        tally.work(clay, rules[village], 0);
        int greatest = tally.difference();
        switch (what) {
            case 0: return least;
            case 1: return greatest;
            default: return asNumber(least == greatest);
        }
    }

    // ---- a last end

    public int act(int side, int act, int a, int b, int c, int d, int e) {
        if (!within(side, 0, 1) || !within(act, 0, LastEnd.ACTS - 1)) {
            return OUTSIDE;
        }
        if (!isWeight(a) || !isWeight(b) || !isWeight(c) || !isWeight(d) || !isWeight(e)) {
            return OUTSIDE;
        }
        if (a + b + c + d + e != LastEnd.WHOLE) {
            return OUTSIDE;
        }
        int from = LastEnd.firstWeight(side, act);
        lastEnd.weights[from] = a;
        lastEnd.weights[from + 1] = b;
        lastEnd.weights[from + 2] = c;
        lastEnd.weights[from + 3] = d;
        lastEnd.weights[from + 4] = e;
        return 1;
    }

    public long win(int n, int side, int lead, int need, int what) {
        if (!within(n, 0, 6) || !within(side, 0, 1) || !within(what, 0, 2)) {
            return OUTSIDE;
        }
        if (!LastEnd.isLead(lead) || !LastEnd.isLead(need)) {
            return OUTSIDE;
        }
        lastEnd.work(n, side, need);
        if (what == 2) {
            return n == 0 ? NONE : lastEnd.bestAct(lead);
        }
        long upper = lastEnd.chance(lead);
        long lower = lastEnd.outOf;
        long common = Math.max(1, commonDivisor(upper, lower));
        return what == 0 ? upper / common : lower / common;
    }

    // ---- the book

    public int match(int home, int away, int mode) {
        if (!isVillage(home) || !isVillage(away)) {
            return UNKNOWN;
        }
        if (!within(mode, 0, 2) || home == away) {
            return OUTSIDE;
        }
        if (book.made >= Book.MOST_MATCHES) {
            return FULL;
        }
        return book.add(new Match(home, away, mode));
    }

    public int end(int m, int score) {
        Match match = book.find(m);
        if (match == null) {
            return UNKNOWN;
        }
        if (!isEndScore(score)) {
            return OUTSIDE;
        }
        settle(match);
        if (match.state != Match.OPEN) {
            return NOT;
        }
        if (match.told >= Match.MOST_ENDS) {
            return FULL;
        }
        match.scores[match.told] = score;
        match.told++;
        return match.told - 1;
    }

    public int mend(int m, int end, int score) {
        Match match = book.find(m);
        if (match == null || !within(end, 0, match.told - 1)) {
            return UNKNOWN;
        }
        if (!isEndScore(score)) {
            return OUTSIDE;
        }
        int before = match.scores[end];
        match.scores[end] = score;
        return before;
    }

    public int dusk(int m) {
        Match match = book.find(m);
        if (match == null) {
            return UNKNOWN;
        }
        settle(match);
        if (match.state != Match.OPEN) {
            return NOT;
        }
        match.closed = true;
        return 1;
    }

    public int about(int m, int what) {
        Match match = book.find(m);
        if (match == null) {
            return UNKNOWN;
        }
        settle(match);
        switch (what) {
            case 0: return match.home;
            case 1: return match.away;
            case 2: return match.mode;
            case 3: return match.told;
            case 4: return match.counting;
            case 5: return match.homePoints;
            case 6: return match.awayPoints;
            case 7: return match.state;
            default: return OUTSIDE;
        }
    }

    public int standing(int village, int what) {
        if (!isVillage(village)) {
            return UNKNOWN;
        }
        if (!within(what, 0, 7)) {
            return OUTSIDE;
        }
        settleAll();
        book.sumUp();
        switch (what) {
            case 6: return book.table(village);
            case 7: return book.place(village);
            default: return book.sums[what][village];
        }
    }

    public int order() {
        int words = orderDraft.read(text);
        text.clear();
        if (!text.isSound()) {
            return -10 - text.faultKind;
        }
        book.order.become(orderDraft);
        return words;
    }

    public int reach(int village, int what) {
        if (!isVillage(village)) {
            return UNKNOWN;
        }
        if (!within(what, 0, 1)) {
            return OUTSIDE;
        }
        if (openMatches() > Book.MOST_OPEN) {
            return LARGE;
        }
        book.sumUp();
        book.tryAllWays(village);
        return what == 0 ? book.leastPlace : book.greatestPlace;
    }

    // ---- helpers of the calls

    private void settle(Match match) {
        match.work(rules[match.home].values[Rule.GAME], rules[match.away].values[Rule.GAME]);
    }

    private void settleAll() {
        for (int m = 0; m < book.made; m++) {
            settle(book.matches[m]);
        }
    }

    private int openMatches() {
        settleAll();
        return book.countOpen();
    }

    private static boolean within(int number, int least, int greatest) {
        return number >= least && number <= greatest;
    }

    private static boolean isVillage(int village) {
        return within(village, 0, VILLAGES - 1);
    }

    private static boolean isPlace(int x, int y) {
        return within(x, -FARTHEST, FARTHEST) && within(y, -FARTHEST, FARTHEST);
    }

    private static boolean isWeight(int weight) {
        return within(weight, 0, LastEnd.WHOLE);
    }

    private static boolean isEndScore(int score) {
        return within(score, -99, 99);
    }

    private static int asNumber(boolean yes) {
        return yes ? 1 : 0;
    }

    private static long commonDivisor(long one, long other) {
        long a = one;
        long b = other;
        // Numbers up to 60 to the 6th need some fifty steps at most.
        for (int step = 0; step < 100 && b != 0; step++) {
            long rest = a % b;
            a = b;
            b = rest;
        }
        return a;
    }

    private static int wholeRoot(int square) {
        int root = 0;
        for (int bit = 512; bit > 0; bit /= 2) {
            int higher = root + bit;
            if (higher * higher <= square) {
                root = higher;
            }
        }
        return root;
    }

    /** The root of p and a, against the root of q and b: -1, 0, 1. */
    private static int compareSums(long p, long a, long q, long b) {
        return b >= a ? compareRoots(p, q, b - a) : -compareRoots(q, p, a - b);
    }

    /** The root of p against the root of q and gap (0 or more), by whole numbers alone so that nothing is rounded. */
    private static int compareRoots(long p, long q, long gap) {
        long rest = p - q - gap * gap;
        if (rest < 0) {
            return -1;
        }
        // rest is at most p here, and gap at most its root: neither square leaves a long.
        return Long.compare(rest * rest, 4 * gap * gap * q);
    }

    // ---- classes

    private static final class Iron {
        static final int ON_CLAY = 0;
        static final int LOWEST = 1;
        static final int HIGHEST = 2;

        int side;
        int x;
        int y;
        int size;
        int hole;
        int lift;
        boolean up;
        boolean off;
        /** A man's span, in tenths; NONE as its low, if he told none. */
        final int[] low;
        final int[] high;

        Iron() {
            low = new int[MEN];
            high = new int[MEN];
        }

        void lay(int ofSide, int toX, int toY, int ofSize, int ofHole, int ofLift, boolean hillUp) {
            side = ofSide;
            size = ofSize;
            hole = ofHole;
            lift = ofLift;
            up = hillUp;
            off = false;
            moveTo(toX, toY);
        }

        void moveTo(int toX, int toY) {
            x = toX;
            y = toY;
            for (int man = 0; man < MEN; man++) {
                low[man] = NONE;
                high[man] = NONE;
            }
        }

        int square() {
            return x * x + y * y;
        }

        boolean isRinger() {
            return square() < hole * hole;
        }

        boolean touchesPin() {
            return square() <= size * size;
        }

        int cutNearness() {
            return Math.max(0, wholeRoot(square()) - size) + lift;
        }

        boolean overlaps(Iron other) {
            int dx = x - other.x;
            int dy = y - other.y;
            int both = size + other.size;
            return dx * dx + dy * dy < both * both;
        }

        int countSpans() {
            int spans = 0;
            for (int man = 0; man < MEN; man++) {
                if (low[man] != NONE) {
                    spans++;
                }
            }
            return spans;
        }

        int knownLow() {
            int known = 0;
            for (int man = 0; man < MEN; man++) {
                known = Math.max(known, low[man]);
            }
            return known;
        }

        int knownHigh() {
            int known = 9999;
            for (int man = 0; man < MEN; man++) {
                if (low[man] != NONE) {
                    known = Math.min(known, high[man]);
                }
            }
            return known;
        }

        boolean isDisputed() {
            return knownLow() > knownHigh();
        }

        private boolean readsSpan(int reading) {
            return reading != ON_CLAY && countSpans() > 0;
        }

        /** Ten times the nearness is tenths() and the root of rootOf(): so it is held exactly. */
        long rootOf(int reading) {
            return readsSpan(reading) || touchesPin() ? 0 : 100L * square();
        }

        long tenths(int reading) {
            if (readsSpan(reading)) {
                return reading == LOWEST ? knownLow() : knownHigh();
            }
            return touchesPin() ? 10L * lift : 10L * (lift - size);
        }
    }

    private static final class Clay {
        static final int MOST_IRONS = 12;

        final Iron[] irons;
        int laid;

        Clay() {
            irons = new Iron[MOST_IRONS];
            for (int i = 0; i < MOST_IRONS; i++) {
                irons[i] = new Iron();
            }
        }

        Iron find(int i) {
            return within(i, 0, laid - 1) ? irons[i] : null;
        }

        /** Whether the later iron lies on the earlier one. */
        private boolean liesOn(int later, int earlier) {
            Iron above = irons[later];
            Iron below = irons[earlier];
            return !above.off && !below.off && above.overlaps(below);
        }

        int lyingOn(int i) {
            int set = 0;
            for (int later = i + 1; later < laid; later++) {
                if (liesOn(later, i)) {
                    set |= 1 << later;
                }
            }
            return set;
        }

        int lyingUnder(int i) {
            int set = 0;
            for (int earlier = 0; earlier < i; earlier++) {
                if (liesOn(i, earlier)) {
                    set |= 1 << earlier;
                }
            }
            return set;
        }

        int ofSide(int side) {
            int set = 0;
            for (int i = 0; i < laid; i++) {
                if (irons[i].side == side) {
                    set |= 1 << i;
                }
            }
            return set;
        }

        int ringers() {
            int set = 0;
            for (int i = 0; i < laid; i++) {
                if (irons[i].isRinger()) {
                    set |= 1 << i;
                }
            }
            return set;
        }

        int countOff() {
            int off = 0;
            for (int i = 0; i < laid; i++) {
                off += asNumber(irons[i].off);
            }
            return off;
        }

        int countRingers(int side) {
            int ringers = 0;
            for (int i = 0; i < laid; i++) {
                Iron iron = irons[i];
                ringers += asNumber(iron.side == side && !iron.off && iron.isRinger());
            }
            return ringers;
        }

        int countMeasured() {
            int measured = 0;
            for (int i = 0; i < laid; i++) {
                measured += asNumber(irons[i].countSpans() > 0);
            }
            return measured;
        }

        int countDisputed() {
            int disputed = 0;
            for (int i = 0; i < laid; i++) {
                disputed += asNumber(irons[i].isDisputed());
            }
            return disputed;
        }
    }

    /** The text that is fed, how far it has been read, and the fault of the latest reading. */
    private static final class Text {
        static final int MOST_BYTES = 100;
        static final int BLANK = 32;
        static final int MISPLACED = 1;
        static final int BAD_NUMBER = 2;
        static final int AGAIN = 3;

        final int[] bytes;
        int length;
        int at;
        int faultKind;
        int faultAt;

        Text() {
            bytes = new int[MOST_BYTES];
            faultAt = NONE;
        }

        void add(int value) {
            if (length < MOST_BYTES) {
                bytes[length] = value;
                length++;
            }
        }

        void clear() {
            length = 0;
        }

        void startReading() {
            at = 0;
            faultKind = 0;
            faultAt = NONE;
        }

        boolean isSound() {
            return faultKind == 0;
        }

        void refuse(int kind, int place) {
            faultKind = kind;
            faultAt = place;
        }

        int byteAt(int place) {
            return within(place, 0, length - 1) ? bytes[place] : NONE;
        }

        void skipBlanks() {
            while (at < length && byteAt(at) == BLANK) {
                at++;
            }
        }

        /** Where the word that begins here stops: here, if there is none. */
        int wordStop() {
            int stop = at;
            while (stop < length && within(byteAt(stop), 'a', 'z')) {
                stop++;
            }
            return stop;
        }

        int figuresStop() {
            int stop = at;
            while (stop < length && within(byteAt(stop), '0', '9')) {
                stop++;
            }
            return stop;
        }

        /** Whether the bytes from here up to stop are this word. */
        boolean spells(int stop, String word) {
            if (stop - at != word.length()) {
                return false;
            }
            for (int k = 0; k < word.length(); k++) {
                if (byteAt(at + k) != word.charAt(k)) {
                    return false;
                }
            }
            return true;
        }
    }

    private static final class Rule {
        static final int RINGER = 0;
        static final int NEAR = 1;
        static final int MOST = 2;
        static final int MEASURE = 3;
        static final int GAME = 4;
        static final int CANCEL = 5;
        static final int DOWN = 6;
        static final int UNDER = 7;
        static final int CLAUSES = 8;

        static final int CANCEL_NONE = 0;
        static final int CANCEL_PAIRS = 1;
        static final int CANCEL_TOP = 2;
        static final int NO = 0;

        private static final int[] AT_FIRST = {2, 1, 12, 0, 21, 1, 1, 1};
        private static final int[] LEAST = {0, 0, 1, 0, 1};
        private static final int[] GREATEST = {9, 9, 12, 20, 99};

        final int[] values;
        private int toldSet;

        Rule() {
            values = new int[CLAUSES];
            System.arraycopy(AT_FIRST, 0, values, 0, CLAUSES);
        }

        void become(Rule other) {
            System.arraycopy(other.values, 0, values, 0, CLAUSES);
        }

        /** Reads the whole text: how many clauses it has, if it is sound. */
        int read(Text text) {
            System.arraycopy(AT_FIRST, 0, values, 0, CLAUSES);
            toldSet = 0;
            text.startReading();
            text.skipBlanks();
            // One clause more than there are kinds: that one has a fault at the latest.
            for (int k = 0; k <= CLAUSES && text.at < text.length && text.isSound(); k++) {
                readClause(text);
                text.skipBlanks();
            }
            return Integer.bitCount(toldSet);
        }

        private void readClause(Text text) {
            int stop = text.wordStop();
            int clause = clauseSpelled(text, stop);
            if (clause == NONE) {
                text.refuse(Text.MISPLACED, text.at);
                return;
            }
            if ((toldSet >> clause & 1) != 0) {
                text.refuse(Text.AGAIN, text.at);
                return;
            }
            toldSet |= 1 << clause;
            text.at = stop;
            text.skipBlanks();
            if (clause < CANCEL) {
                readNumber(text, clause);
            } else {
                readChoice(text, clause);
            }
            if (text.isSound()) {
                readClosing(text);
            }
        }

        private void readNumber(Text text, int clause) {
            int stop = text.figuresStop();
            if (stop == text.at) {
                text.refuse(Text.MISPLACED, text.at);
                return;
            }
            int number = stop - text.at > 2 ? NONE : numberUpTo(text, stop);
            if (!within(number, LEAST[clause], GREATEST[clause])) {
                text.refuse(Text.BAD_NUMBER, text.at);
                return;
            }
            values[clause] = number;
            text.at = stop;
        }

        private static int numberUpTo(Text text, int stop) {
            int number = 0;
            for (int k = text.at; k < stop; k++) {
                number = 10 * number + text.byteAt(k) - '0';
            }
            return number;
        }

        private void readChoice(Text text, int clause) {
            int stop = text.wordStop();
            int choice = clause == CANCEL ? cancelSpelled(text, stop) : yesSpelled(text, stop);
            if (choice == NONE) {
                text.refuse(Text.MISPLACED, text.at);
                return;
            }
            values[clause] = choice;
            text.at = stop;
        }

        private static void readClosing(Text text) {
            text.skipBlanks();
            if (text.byteAt(text.at) != ';') {
                text.refuse(Text.MISPLACED, text.at);
                return;
            }
            text.at++;
        }

        private static int clauseSpelled(Text text, int stop) {
            for (int clause = 0; clause < CLAUSES; clause++) {
                if (text.spells(stop, clauseWord(clause))) {
                    return clause;
                }
            }
            return NONE;
        }

        private static String clauseWord(int clause) {
            switch (clause) {
                case RINGER: return "ringer";
                case NEAR: return "near";
                case MOST: return "most";
                case MEASURE: return "measure";
                case GAME: return "game";
                case CANCEL: return "cancel";
                case DOWN: return "down";
                default: return "under";
            }
        }

        private static int cancelSpelled(Text text, int stop) {
            if (text.spells(stop, "none")) {
                return CANCEL_NONE;
            }
            if (text.spells(stop, "pairs")) {
                return CANCEL_PAIRS;
            }
            return text.spells(stop, "top") ? CANCEL_TOP : NONE;
        }

        private static int yesSpelled(Text text, int stop) {
            if (text.spells(stop, "yes")) {
                return 1;
            }
            return text.spells(stop, "no") ? NO : NONE;
        }
    }

    /** What the irons on the clay are worth by one rule. */
    private static final class Tally {
        int counting;
        int payingRingers;
        int payingAhead;
        final int[] points;
        /** The nearness of each iron, as it is read for this tally. */
        private final long[] roots;
        private final long[] tenths;

        Tally() {
            points = new int[2];
            roots = new long[Clay.MOST_IRONS];
            tenths = new long[Clay.MOST_IRONS];
        }

        int difference() {
            return points[0] - points[1];
        }

        /** By the clay alone, if the favoured side is NONE; else all spans are read as is best for that side. */
        void work(Clay clay, Rule rule, int favoured) {
            counting = countingOf(clay, rule);
            int ringers = counting & clay.ringers();
            int others = counting & ~ringers;
            payingRingers = ringersThatPay(clay, ringers, rule.values[Rule.CANCEL]);
            payingAhead = 0;
            readNearness(clay, favoured);
            for (int side = 0; side < 2; side++) {
                int own = clay.ofSide(side);
                int ahead = aheadOf(others & own, others & ~own, 10 * rule.values[Rule.MEASURE]);
                ahead = earliest(ahead, rule.values[Rule.MOST]);
                payingAhead |= ahead;
                points[side] = rule.values[Rule.RINGER] * Integer.bitCount(payingRingers & own)
                        + rule.values[Rule.NEAR] * Integer.bitCount(ahead);
            }
        }

        boolean disputedCounts(Clay clay, Rule rule) {
            int counts = countingOf(clay, rule);
            for (int i = 0; i < clay.laid; i++) {
                if ((counts >> i & 1) != 0 && clay.irons[i].isDisputed()) {
                    return true;
                }
            }
            return false;
        }

        private static int countingOf(Clay clay, Rule rule) {
            boolean upAlone = rule.values[Rule.DOWN] == Rule.NO;
            boolean freeAlone = rule.values[Rule.UNDER] == Rule.NO;
            int set = 0;
            for (int i = 0; i < clay.laid; i++) {
                Iron iron = clay.irons[i];
                boolean counts = !iron.off && (iron.up || !upAlone);
                if (counts && freeAlone) {
                    counts = (clay.lyingOn(i) & clay.ofSide(1 - iron.side)) == 0;
                }
                set |= asNumber(counts) << i;
            }
            return set;
        }

        private static int ringersThatPay(Clay clay, int ringers, int cancel) {
            if (cancel == Rule.CANCEL_NONE) {
                return ringers;
            }
            if (cancel == Rule.CANCEL_TOP) {
                return latest(ringers, 1);
            }
            int first = ringers & clay.ofSide(0);
            int second = ringers & clay.ofSide(1);
            int more = Integer.bitCount(first) - Integer.bitCount(second);
            return more > 0 ? latest(first, more) : latest(second, -more);
        }

        private static int latest(int set, int most) {
            int taken = 0;
            for (int i = Clay.MOST_IRONS - 1; i >= 0 && Integer.bitCount(taken) < most; i--) {
                taken |= set & 1 << i;
            }
            return taken;
        }

        private static int earliest(int set, int most) {
            int taken = 0;
            for (int i = 0; i < Clay.MOST_IRONS && Integer.bitCount(taken) < most; i++) {
                taken |= set & 1 << i;
            }
            return taken;
        }

        private void readNearness(Clay clay, int favoured) {
            for (int i = 0; i < clay.laid; i++) {
                Iron iron = clay.irons[i];
                int reading = readingOf(iron, favoured);
                roots[i] = iron.rootOf(reading);
                tenths[i] = iron.tenths(reading);
            }
        }

        private int aheadOf(int own, int against, int margin) {
            int set = 0;
            for (int i = 0; i < Clay.MOST_IRONS; i++) {
                if ((own >> i & 1) != 0 && isAhead(i, against, margin)) {
                    set |= 1 << i;
                }
            }
            return set;
        }

        private boolean isAhead(int i, int against, int margin) {
            for (int j = 0; j < Clay.MOST_IRONS; j++) {
                boolean held = (against >> j & 1) != 0;
                if (held && compareSums(roots[i], tenths[i] + margin, roots[j], tenths[j]) >= 0) {
                    return false;
                }
            }
            return true;
        }

        private static int readingOf(Iron iron, int favoured) {
            if (favoured == NONE) {
                return Iron.ON_CLAY;
            }
            return iron.side == favoured ? Iron.LOWEST : Iron.HIGHEST;
        }
    }

    /** The throws that are left, worked from the last one back, with chances out of 60 to the power of throws. */
    private static final class LastEnd {
        static final int ACTS = 3;
        static final int WHOLE = 60;
        private static final int STEPS = 5;
        private static final int BOUND = 9;
        private static final int LEADS = 2 * BOUND + 1;
        private static final int[] AT_FIRST = {0, 10, 20, 20, 10, 0, 0, 40, 20, 0, 20, 0, 10, 0, 30};

        final int[] weights;
        long outOf;
        private final long[] now;
        private final long[] earlier;
        private final int[] best;

        LastEnd() {
            weights = new int[2 * ACTS * STEPS];
            System.arraycopy(AT_FIRST, 0, weights, 0, ACTS * STEPS);
            System.arraycopy(AT_FIRST, 0, weights, ACTS * STEPS, ACTS * STEPS);
            now = new long[LEADS];
            earlier = new long[LEADS];
            best = new int[LEADS];
        }

        static boolean isLead(int lead) {
            return within(lead, -BOUND, BOUND);
        }

        /** Of a side (0, 1) and an act (0 .. 2). */
        static int firstWeight(int side, int act) {
            return (side * ACTS + act) * STEPS;
        }

        long chance(int lead) {
            return isLead(lead) ? now[lead + BOUND] : 0;
        }

        int bestAct(int lead) {
            return isLead(lead) ? best[lead + BOUND] : NONE;
        }

        void work(int throwsLeft, int side, int need) {
            outOf = 1;
            for (int lead = 0; lead < LEADS; lead++) {
                now[lead] = lead - BOUND >= need ? 1 : 0;
            }
            for (int left = 1; left <= throwsLeft; left++) {
                int thrower = (side + throwsLeft - left) % 2;
                for (int lead = 0; lead < LEADS; lead++) {
                    chooseAct(lead, thrower);
                }
                System.arraycopy(earlier, 0, now, 0, LEADS);
                outOf *= WHOLE;
            }
        }

        private void chooseAct(int lead, int thrower) {
            best[lead] = 0;
            earlier[lead] = chanceBy(lead, thrower, 0);
            for (int act = 1; act < ACTS; act++) {
                long chance = chanceBy(lead, thrower, act);
                boolean better = thrower == 0 ? chance > earlier[lead] : chance < earlier[lead];
                if (better) {
                    best[lead] = act;
                    earlier[lead] = chance;
                }
            }
        }

        private long chanceBy(int lead, int thrower, int act) {
            int from = firstWeight(thrower, act);
            long sum = 0;
            for (int step = 0; step < STEPS; step++) {
                int change = thrower == 0 ? step - 2 : 2 - step;
                int next = Math.max(0, Math.min(LEADS - 1, lead + change));
                sum += weights[from + step] * now[next];
            }
            return sum;
        }
    }

    private static final class Match {
        static final int MOST_ENDS = 40;
        static final int OPEN = 0;
        static final int HOME_WON = 1;
        static final int AWAY_WON = 2;
        static final int DRAWN = 3;

        final int home;
        final int away;
        final int mode;
        final int[] scores;
        int told;
        boolean closed;
        // As worked out latest: rules and ends may have changed since.
        int counting;
        int homePoints;
        int awayPoints;
        int state;

        Match(int homeVillage, int awayVillage, int ofMode) {
            home = homeVillage;
            away = awayVillage;
            mode = ofMode;
            scores = new int[MOST_ENDS];
        }

        void work(int homeGame, int awayGame) {
            counting = 0;
            homePoints = 0;
            awayPoints = 0;
            state = OPEN;
            while (counting < told && state == OPEN) {
                boolean byHome = mode == 0 || mode == 2 && counting % 2 == 0;
                addPoints(scores[counting]);
                counting++;
                if (Math.max(homePoints, awayPoints) >= (byHome ? homeGame : awayGame)) {
                    state = whoLeads(OPEN);
                }
            }
            if (state == OPEN && closed) {
                state = whoLeads(DRAWN);
            }
        }

        private void addPoints(int score) {
            if (score > 0) {
                homePoints += score;
            } else {
                awayPoints -= score;
            }
        }

        private int whoLeads(int ifAlike) {
            if (homePoints == awayPoints) {
                return ifAlike;
            }
            return homePoints > awayPoints ? HOME_WON : AWAY_WON;
        }

        boolean isOf(int village) {
            return village == home || village == away;
        }

        /** What the match gives a village that plays in it: 2 won, 1 drawn, else 0. */
        int tableFor(int village) {
            if (state == DRAWN) {
                return 1;
            }
            return state == (village == home ? HOME_WON : AWAY_WON) ? 2 : 0;
        }
    }

    /** By which words villages are placed. */
    private static final class Order {
        static final int TABLE = 0;
        static final int WON = 1;
        static final int DIFF = 2;
        static final int FOR = 3;
        static final int WORDS = 5;
        private static final int MOST_BYTES = 60;

        final int[] words;
        int length;
        private int toldSet;

        Order() {
            words = new int[WORDS];
            words[0] = TABLE;
            length = 1;
        }

        void become(Order other) {
            System.arraycopy(other.words, 0, words, 0, WORDS);
            length = other.length;
        }

        /** Reads the whole text: how many words it has, if it is sound. */
        int read(Text text) {
            length = 0;
            toldSet = 0;
            text.startReading();
            text.skipBlanks();
            // One word more than there are kinds: that one has a fault at the latest.
            for (int k = 0; k <= WORDS && text.at < text.length && text.isSound(); k++) {
                readWord(text);
                text.skipBlanks();
            }
            if (text.isSound() && length == 0) {
                text.refuse(Text.MISPLACED, text.length);
            }
            // Byte 60 is one fault among the others: one ahead of it comes first.
            if (text.length > MOST_BYTES && (text.isSound() || text.faultAt >= MOST_BYTES)) {
                text.refuse(Text.MISPLACED, MOST_BYTES);
            }
            return length;
        }

        private void readWord(Text text) {
            int stop = text.wordStop();
            int word = wordSpelled(text, stop);
            if (word == NONE) {
                text.refuse(Text.MISPLACED, text.at);
                return;
            }
            if ((toldSet >> word & 1) != 0 || length >= WORDS) {
                text.refuse(Text.AGAIN, text.at);
                return;
            }
            toldSet |= 1 << word;
            words[length] = word;
            length++;
            text.at = stop;
        }

        private static int wordSpelled(Text text, int stop) {
            for (int word = 0; word < WORDS; word++) {
                if (text.spells(stop, orderWord(word))) {
                    return word;
                }
            }
            return NONE;
        }

        private static String orderWord(int word) {
            switch (word) {
                case TABLE: return "table";
                case WON: return "won";
                case DIFF: return "diff";
                case FOR: return "for";
                default: return "met";
            }
        }
    }

    /** The matches, and where they put the villages. */
    private static final class Book {
        static final int MOST_MATCHES = 24;
        static final int MOST_OPEN = 6;
        private static final int PLAYED = 0;
        private static final int WON = 1;
        private static final int DRAWN = 2;
        private static final int LOST = 3;
        private static final int POINTS_FOR = 4;
        private static final int POINTS_AGAINST = 5;
        private static final int SUMS = 6;

        final Match[] matches;
        int made;
        final Order order;
        /** What has been summed up, of each village. */
        final int[][] sums;
        int leastPlace;
        int greatestPlace;
        /** What each village has by each word of the order. */
        private final int[][] keys;
        /** The tables by the matches that are not open, and by one way of the open ones too. */
        private final int[] settled;
        private final int[] tables;
        private final int[] openOnes;
        private int open;

        Book() {
            matches = new Match[MOST_MATCHES];
            order = new Order();
            sums = new int[SUMS][VILLAGES];
            keys = new int[Order.WORDS][VILLAGES];
            settled = new int[VILLAGES];
            tables = new int[VILLAGES];
            openOnes = new int[MOST_OPEN];
        }

        Match find(int m) {
            return within(m, 0, made - 1) ? matches[m] : null;
        }

        int add(Match match) {
            if (made >= MOST_MATCHES) {
                return FULL;
            }
            matches[made] = match;
            made++;
            return made - 1;
        }

        int countOpen() {
            int count = 0;
            for (int m = 0; m < made; m++) {
                count += asNumber(matches[m].state == Match.OPEN);
            }
            return count;
        }

        void sumUp() {
            for (int sum = 0; sum < SUMS; sum++) {
                for (int village = 0; village < VILLAGES; village++) {
                    sums[sum][village] = 0;
                }
            }
            for (int m = 0; m < made; m++) {
                Match match = matches[m];
                addTo(match.home, match, match.homePoints, match.awayPoints);
                addTo(match.away, match, match.awayPoints, match.homePoints);
            }
        }

        private void addTo(int village, Match match, int own, int against) {
            sums[PLAYED][village]++;
            sums[POINTS_FOR][village] += own;
            sums[POINTS_AGAINST][village] += against;
            if (match.state != Match.OPEN) {
                int given = match.tableFor(village);
                sums[given == 2 ? WON : given == 1 ? DRAWN : LOST][village]++;
            }
        }

        int table(int village) {
            return 2 * sums[WON][village] + sums[DRAWN][village];
        }

        int place(int village) {
            for (int k = 0; k < order.length; k++) {
                for (int v = 0; v < VILLAGES; v++) {
                    keys[k][v] = keyOf(v, k);
                }
            }
            int place = 1;
            for (int v = 0; v < VILLAGES; v++) {
                place += asNumber(isAhead(v, village));
            }
            return place;
        }

        /** Needs the keys of all words ahead of the k-th. */
        private int keyOf(int village, int k) {
            switch (order.words[k]) {
                case Order.TABLE: return table(village);
                case Order.WON: return sums[WON][village];
                case Order.DIFF: return sums[POINTS_FOR][village] - sums[POINTS_AGAINST][village];
                case Order.FOR: return sums[POINTS_FOR][village];
                default: return tableAmongLikes(village, k);
            }
        }

        private int tableAmongLikes(int village, int words) {
            int sum = 0;
            for (int m = 0; m < made; m++) {
                Match match = matches[m];
                if (match.isOf(village) && areAlike(match.home, match.away, words)) {
                    sum += match.tableFor(village);
                }
            }
            return sum;
        }

        private boolean areAlike(int one, int other, int words) {
            for (int k = 0; k < words; k++) {
                if (keys[k][one] != keys[k][other]) {
                    return false;
                }
            }
            return true;
        }

        private boolean isAhead(int one, int other) {
            for (int k = 0; k < order.length; k++) {
                if (keys[k][one] != keys[k][other]) {
                    return keys[k][one] > keys[k][other];
                }
            }
            return false;
        }

        void tryAllWays(int village) {
            for (int v = 0; v < VILLAGES; v++) {
                settled[v] = table(v);
            }
            noteOpenOnes();
            int ways = 1;
            for (int k = 0; k < open; k++) {
                ways *= 3;
            }
            leastPlace = VILLAGES;
            greatestPlace = 1;
            for (int way = 0; way < ways; way++) {
                takeWay(way);
                notePlace(village);
            }
        }

        private void noteOpenOnes() {
            open = 0;
            for (int m = 0; m < made; m++) {
                if (matches[m].state == Match.OPEN && open < MOST_OPEN) {
                    openOnes[open] = m;
                    open++;
                }
            }
        }

        /** The figures of way, written by threes, are what the open matches give their homes. */
        private void takeWay(int way) {
            System.arraycopy(settled, 0, tables, 0, VILLAGES);
            int rest = way;
            for (int k = 0; k < open; k++) {
                Match match = matches[openOnes[k]];
                int forHome = rest % 3;
                tables[match.home] += forHome;
                tables[match.away] += 2 - forHome;
                rest /= 3;
            }
        }

        private void notePlace(int village) {
            int place = 1;
            for (int v = 0; v < VILLAGES; v++) {
                place += asNumber(tables[v] > tables[village]);
            }
            leastPlace = Math.min(leastPlace, place);
            greatestPlace = Math.max(greatestPlace, place);
        }
    }
}
