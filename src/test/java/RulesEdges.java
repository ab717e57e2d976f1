/** Edges of part 2, RULES: promises 9 to 13. */
final class RulesEdges {
    private static final int NONE = Edge.NONE;
    private static final int UNKNOWN = Edge.UNKNOWN;
    private static final int OUTSIDE = Edge.OUTSIDE;
    private static final int FULL = Edge.FULL;

    private static final String[] NUMBERED = {"ringer", "near", "most", "measure", "game"};
    private static final int[] LEAST = {0, 0, 1, 0, 1};
    private static final int[] GREATEST = {9, 9, 12, 20, 99};
    private static final String[] CHOOSING = {"cancel", "down", "under"};
    private static final String[][] CHOICES = {{"none", "pairs", "top"}, {"no", "yes"}, {"no", "yes"}};
    private static final int[] AT_FIRST = {2, 1, 12, 0, 21, 1, 1, 1};
    private static final String ALL = "ringer 9;near 8;most 7;measure 6;game 50;cancel none;down no;under no;";

    private RulesEdges() {
    }

    static void run() {
        Edge.test(9, "Up to eight bytes (n 1 .. 8) of a long,", RulesEdges::oneToEightBytes);
        Edge.test(9, "the highest of these first, come behind THE TEXT:", RulesEdges::highestFirst);
        Edge.test(9, "how many it has.", RulesEdges::feedTellsHowMany);
        Edge.test(9, "OUTSIDE, FULL (above 100).", RulesEdges::hundredBytesAtMost);
        Edge.test(10, "THE TEXT (it is empty then) becomes the RULE of a VILLAGE: how many clauses;", RulesEdges::clausesFrom0To8);
        Edge.test(10, "RULES of VILLAGES 0 to 5 are texts (100 bytes at most):", RulesEdges::ruleOf100Bytes);
        Edge.test(10, "clauses, each a word, then a NUMBER (one or two figures) or a word, then ';'.", RulesEdges::partsOfAClause);
        Edge.test(10, "Words are letters a .. z side by side.", RulesEdges::bytesInWords);
        Edge.test(10, "Words are letters a .. z side by side.", RulesEdges::letterByLetter);
        Edge.test(10, "Blanks (32) may stand anywhere but within words and NUMBERS;", RulesEdges::bytesBetween);
        Edge.test(10, "Blanks (32) may stand anywhere but within words and NUMBERS;", RulesEdges::blanksEverywhere);
        Edge.test(10, "a word and what is behind it need one, if both are words.", RulesEdges::blankBetweenTwoWords);
        Edge.test(10, "Clauses (at first, and if not told: as in brackets):", RulesEdges::notToldIsAsAtFirst);
        Edge.test(10, "ringer 0 .. 9 [2]; near 0 .. 9 [1]; most 1 .. 12 [12]; measure 0 .. 20 [0]; game 1 .. 99 [21];",
                RulesEdges::numbersInBounds);
        Edge.test(10, "cancel none, pairs, top [pairs]; down yes, no [yes]; under yes, no [yes].", RulesEdges::choicesOfClauses);
        Edge.test(10, "FAULTS, at the first byte that has one (the end at the text's length), of these the least:",
                RulesEdges::theEndAtTheTextsLength);
        Edge.test(10, "FAULTS, at the first byte that has one (the end at the text's length), of these the least:",
                RulesEdges::firstFaultOfSeveral);
        Edge.test(10, "1 it cannot stand there (a word that cannot: at its first letter).", RulesEdges::whatCannotStandThere);
        Edge.test(10, "2 a NUMBER of three figures or more, or out of its bounds (at its first).", RulesEdges::threeFiguresOrMore);
        Edge.test(10, "3 a clause again (at its first letter).", RulesEdges::aClauseAgain);
        Edge.test(10, "A new RULE forgets the one ahead.", RulesEdges::newRuleForgets);
        Edge.test(10, "-10 less the number of its FAULT (the RULE is as it was).", RulesEdges::ruleIsAsItWas);
        Edge.test(10, "UNKNOWN (THE TEXT stays).", RulesEdges::ruleOfUnknownVillage);
        Edge.test(11, "The byte of the FAULT of the latest rule() or order() that was not UNKNOWN; NONE.", RulesEdges::faultOfTheLatest);
        Edge.test(12, "Of a RULE: what = 0 ringer, 1 near, 2 most, 3 measure, 4 game, 5 cancel (0 none, 1 pairs, 2 top), "
                + "6 down (1, 0), 7 under.", RulesEdges::saysOfEachVillage);
        Edge.test(12, "UNKNOWN, OUTSIDE.", RulesEdges::saysRefused);
    }

    /** The answer and the fault's byte; behind it the text is empty, and a faulty rule changes no rule. */
    static Calls rule(String text, int answer, int fault) {
        Calls x = new Calls();
        x.feedAll(text);
        int got = x.rule(3);
        Due.due(Edge.current() + ": rule of '" + text + "'", got, answer);
        Due.due(Edge.current() + ": fault of '" + text + "'", x.fault(), fault);
        Edge.due(x, x.count(6), 0);
        if (answer < 0) {
            saysAll(x, 3, AT_FIRST);
        }
        return x;
    }

    static void saysAll(Calls x, int village, int... due) {
        for (int what = 0; what < due.length; what++) {
            Edge.due(x, x.says(village, what), due[what]);
        }
    }

    private static boolean isLetter(int sign) {
        return sign >= 97 && sign <= 122;
    }

    private static boolean isFigure(int sign) {
        return sign >= 48 && sign <= 57;
    }

    // ---- promise 9

    private static void oneToEightBytes() {
        Edge.bounds(Scenes.BARE, 1, 8, OUTSIDE, (x, n) -> x.feed(n, Long.MAX_VALUE));
        Edge.bounds(Scenes.SOME, 1, 8, OUTSIDE, (x, n) -> x.feed(n, Long.MIN_VALUE));
        for (int n = 1; n <= 8; n++) {
            Calls x = new Calls();
            Edge.due(x, x.feed(n, -1L), n);
            Edge.due(x, x.count(6), n);
        }
    }

    private static void highestFirst() {
        // What is above the n lowest bytes is not taken.
        String word = "near 12;";
        for (int n = 1; n <= 8; n++) {
            for (long above : new long[] {0L, -1L, 0x6161616161616161L, Long.MIN_VALUE, Long.MAX_VALUE}) {
                Calls x = new Calls();
                long low = Calls.bytesOf(word.substring(8 - n));
                long bytes = n == 8 ? low : above << 8 * n | low;
                for (int k = 0; k + n < 8; k++) {
                    x.feed(1, above << 8 | word.charAt(k));
                }
                Edge.due(x, x.feed(n, bytes), 8);
                Edge.due(x, x.rule(0), -12);
                Edge.due(x, x.fault(), 5);
            }
        }
        // The ends of a long: 0x80 and 0x7f come first, and neither can stand there.
        for (long bytes : new long[] {Long.MIN_VALUE, Long.MAX_VALUE, 0L, -1L}) {
            for (int ahead = 0; ahead < 3; ahead++) {
                Calls x = new Calls();
                x.feedAll(" ".repeat(ahead));
                x.feed(8, bytes);
                Edge.due(x, x.rule(0), -11);
                Edge.due(x, x.fault(), ahead);
            }
        }
        Calls x = new Calls();
        x.feed(8, 0x20202020206e6561L);
        x.feed(4, 0xff00ff0072323b20L);
        Edge.due(x, x.rule(0), 1);
        Edge.due(x, x.says(0, 1), 2);
    }

    private static void feedTellsHowMany() {
        Calls x = new Calls();
        for (int k = 1; k <= 100; k++) {
            Edge.due(x, x.feed(1, 32), k);
            Edge.due(x, x.count(6), k);
        }
        x.rule(0);
        Edge.due(x, x.feed(3, 0), 3);
        x.order();
        Edge.due(x, x.feed(2, 0), 2);
    }

    private static void hundredBytesAtMost() {
        for (int n = 1; n <= 8; n++) {
            int of = n;
            Edge.Run upTo = x -> x.feedAll(" ".repeat(100 - of));
            Edge.Run beyond = x -> x.feedAll(" ".repeat(101 - of));
            Edge.due(upTo, 100, x -> x.feed(of, 0));
            Edge.refused(beyond, FULL, x -> x.feed(of, 0));
            Edge.refused(Scenes.BRIMFUL, FULL, x -> x.feed(of, -1L));
        }
        Edge.outOf(Scenes.BRIMFUL, 1, 8, OUTSIDE, (x, n) -> x.feed(n, 0));
        Edge.refused(x -> x.feedAll(" ".repeat(92)), OUTSIDE, x -> x.feed(9, 0));
    }

    // ---- promise 10

    private static void clausesFrom0To8() {
        String[] clauses = {"ringer 9;", "near 8;", "most 7;", "measure 6;", "game 50;", "cancel none;", "down no;", "under no;"};
        StringBuilder ahead = new StringBuilder();
        StringBuilder behind = new StringBuilder();
        rule("", 0, NONE);
        for (int k = 0; k < 8; k++) {
            rule(ahead.append(clauses[k]).toString(), k + 1, NONE);
            rule(behind.insert(0, clauses[7 - k]).toString(), k + 1, NONE);
            rule(clauses[k], 1, NONE);
        }
        saysAll(rule(ALL, 8, NONE), 3, 9, 8, 7, 6, 50, 0, 0, 0);
    }

    private static void ruleOf100Bytes() {
        for (int ahead : new int[] {0, 1, 15, 29}) {
            String text = " ".repeat(ahead) + ALL + " ".repeat(100 - ALL.length() - ahead);
            saysAll(rule(text, 8, NONE), 3, 9, 8, 7, 6, 50, 0, 0, 0);
        }
        rule(" ".repeat(100), 0, NONE);
        rule(" ".repeat(99) + ";", -11, 99);
        rule(" ".repeat(96) + "near", -11, 100);
        rule(" ".repeat(94) + "near 3", -11, 100);
        rule(" ".repeat(93) + "near 3;", 1, NONE);
        rule("x".repeat(100), -11, 0);
        rule("game " + "1".repeat(95), -12, 5);
        // Each village has its own.
        for (int village = 0; village < 6; village++) {
            Calls x = new Calls();
            x.feedAll(ALL);
            Edge.due(x, x.rule(village), 8);
            for (int v = 0; v < 6; v++) {
                Edge.due(x, x.says(v, 4), v == village ? 50 : 21);
            }
        }
    }

    private static void partsOfAClause() {
        rule("near 3;", 1, NONE);
        rule("near 03;", 1, NONE);
        rule("cancel top;", 1, NONE);
        rule("near;", -11, 4);
        rule("near 3", -11, 6);
        rule("3;", -11, 0);
        rule(";", -11, 0);
        rule("near 3;;", -11, 7);
        rule("near 3 3;", -11, 7);
        rule("near 3 top;", -11, 7);
        rule("near near 3;", -11, 5);
        rule("cancel top top;", -11, 11);
        rule("cancel top 3;", -11, 11);
        rule("near 3 most 4;", -11, 7);
        rule("near +3;", -11, 5);
        rule("near -1;", -11, 5);
    }

    /** Every byte within a word: none may stand there. */
    private static void bytesInWords() {
        for (int sign = 0; sign < 256; sign++) {
            char b = (char) sign;
            rule("ne" + b + "ar 3;", -11, 0);
            rule("cancel t" + b + "op;", -11, 7);
        }
        rule("NEAR 3;", -11, 0);
    }

    /** Every byte in place of every letter of every word: the right letter alone may stand there. */
    private static void letterByLetter() {
        for (String clause : ALL.split(";")) {
            int blank = clause.indexOf(' ');
            for (int place = 0; place < blank; place++) {
                // A blank parts the word, and a figure behind its letters is no part of it: what is ahead cannot stand.
                eachByteAt(clause + ";", place, 0);
            }
        }
        for (String clause : new String[] {"cancel none;", "cancel pairs;", "cancel top;", "down yes;", "down no;", "under yes;"}) {
            int blank = clause.indexOf(' ');
            for (int place = blank + 2; place < clause.length() - 1; place++) {
                eachByteAt(clause, place, blank + 1);
            }
            firstByteOfAChoice(clause, blank + 1);
        }
    }

    private static String with(String text, int place, int sign) {
        return text.substring(0, place) + (char) sign + text.substring(place + 1);
    }

    private static void eachByteAt(String clause, int place, int fault) {
        for (int sign = 0; sign < 256; sign++) {
            boolean right = sign == clause.charAt(place);
            // Ahead of a clause a blank may stand: what is left of the word has the fault then.
            int at = place == 0 && sign == 32 ? 1 : fault;
            rule(with(clause, place, sign), right ? 1 : -11, right ? NONE : at);
        }
    }

    private static void firstByteOfAChoice(String clause, int place) {
        for (int sign = 0; sign < 256; sign++) {
            boolean right = sign == clause.charAt(place);
            rule(with(clause, place, sign), right ? 1 : -11, right ? NONE : sign == 32 ? place + 1 : place);
        }
    }

    /** Every byte between the parts of a clause: a blank may stand anywhere there. */
    private static void bytesBetween() {
        for (int sign = 0; sign < 256; sign++) {
            char b = (char) sign;
            boolean blank = sign == 32;
            rule(b + "near 3;", blank ? 1 : -11, blank ? NONE : 0);
            rule("near 3;" + b, blank ? 1 : -11, blank ? NONE : 7);
            byteBehindTheWord(b, blank);
            byteBehindTheNumber(b, blank);
            byteBehindTheChoice(b, blank);
            byteInTheNumber(b, blank);
            byteAsTheNumber(b, blank);
        }
    }

    private static void byteBehindTheWord(char b, boolean blank) {
        if (blank || b == '0') {
            Calls x = rule("near" + b + "3;", 1, NONE);
            Edge.due(x, x.says(3, 1), 3);
        } else if (isFigure(b)) {
            rule("near" + b + "3;", -12, 4);
        } else {
            rule("near" + b + "3;", -11, isLetter(b) ? 0 : 4);
        }
        rule("cancel" + b + "top;", blank ? 1 : -11, blank ? NONE : isLetter(b) ? 0 : 6);
    }

    private static void byteBehindTheNumber(char b, boolean blank) {
        if (isFigure(b)) {
            rule("near 3" + b + ";", -12, 5);
            rule("near 3" + b + "most 4;", -12, 5);
            return;
        }
        rule("near 3" + b + ";", blank ? 1 : -11, blank ? NONE : b == ';' ? 7 : 6);
        if (b == ';') {
            rule("near 3" + b + "most 4;", 2, NONE);
        } else {
            rule("near 3" + b + "most 4;", -11, blank ? 7 : 6);
        }
    }

    private static void byteBehindTheChoice(char b, boolean blank) {
        rule("cancel top" + b + ";", blank ? 1 : -11, blank ? NONE : b == ';' ? 11 : isLetter(b) ? 7 : 10);
    }

    private static void byteInTheNumber(char b, boolean blank) {
        if (isFigure(b)) {
            rule("game 2" + b + "1;", -12, 5);
        } else {
            rule("game 2" + b + "1;", -11, blank || b == ';' ? 7 : 6);
        }
    }

    private static void byteAsTheNumber(char b, boolean blank) {
        rule("near " + b + ";", isFigure(b) ? 1 : -11, isFigure(b) ? NONE : blank ? 6 : 5);
    }

    private static void blanksEverywhere() {
        saysAll(rule("   near   9   ;   cancel   top   ;   ", 2, NONE), 3, 2, 9, 12, 0, 21, 2, 1, 1);
        saysAll(rule("near9;most1;measure20;game99;ringer0;", 5, NONE), 3, 0, 9, 1, 20, 99, 1, 1, 1);
        rule("near" + " ".repeat(94) + "9;", 1, NONE);
        rule("down" + " ".repeat(93) + "no;", 1, NONE);
        rule("near 1 2;", -11, 7);
        rule("most 1 2;", -11, 7);
        rule("ne ar 1;", -11, 0);
        rule("cancel to p;", -11, 7);
        rule("\tnear 1;", -11, 0);
        rule("near\n1;", -11, 4);
        rule("near 1;" + (char) 160, -11, 7);
    }

    private static void blankBetweenTwoWords() {
        rule("cancel none;", 1, NONE);
        rule("cancelnone;", -11, 0);
        rule("downyes;", -11, 0);
        rule("underno;", -11, 0);
        rule("cancel none;down no;", 2, NONE);
        rule("near3;", 1, NONE);
        rule("near3;most4;", 2, NONE);
    }

    private static void notToldIsAsAtFirst() {
        saysAll(rule("", 0, NONE), 3, AT_FIRST);
        for (int told = 0; told < 8; told++) {
            String[] clauses = ALL.split(";");
            Calls x = rule(clauses[told] + ";", 1, NONE);
            int[] values = {9, 8, 7, 6, 50, 0, 0, 0};
            for (int what = 0; what < 8; what++) {
                Edge.due(x, x.says(3, what), what == told ? values[what] : AT_FIRST[what]);
            }
        }
    }

    private static void numbersInBounds() {
        for (int clause = 0; clause < 5; clause++) {
            String word = NUMBERED[clause];
            for (int n = 0; n < 100; n++) {
                boolean in = n >= LEAST[clause] && n <= GREATEST[clause];
                String two = n < 10 ? "0" + n : "" + n;
                for (String figures : new String[] {"" + n, two}) {
                    Calls x = rule(word + " " + figures + ";", in ? 1 : -12, in ? NONE : word.length() + 1);
                    Edge.due(x, x.says(3, clause), in ? n : AT_FIRST[clause]);
                    rule(word + figures + ";", in ? 1 : -12, in ? NONE : word.length());
                }
            }
        }
    }

    private static void choicesOfClauses() {
        for (int clause = 0; clause < 3; clause++) {
            for (String word : new String[] {"none", "pairs", "top", "yes", "no", "on", "y", "nones", "near", "cancel", "table"}) {
                int choice = java.util.Arrays.asList(CHOICES[clause]).indexOf(word);
                int place = CHOOSING[clause].length() + 1;
                Calls x = rule(CHOOSING[clause] + " " + word + ";", choice < 0 ? -11 : 1, choice < 0 ? place : NONE);
                Edge.due(x, x.says(3, 5 + clause), choice < 0 ? 1 : choice);
            }
            for (String number : new String[] {"0", "1", "02", "100", "99999999999"}) {
                rule(CHOOSING[clause] + " " + number + ";", -11, CHOOSING[clause].length() + 1);
            }
        }
        for (String word : NUMBERED) {
            for (String choice : new String[] {"none", "pairs", "top", "yes", "no"}) {
                rule(word + " " + choice + ";", -11, word.length() + 1);
            }
        }
    }

    private static void theEndAtTheTextsLength() {
        String text = "near 3; cancel none;";
        // The fault's byte of the text cut to each length; NONE where it is sound.
        int[] faults = {NONE, 0, 0, 0, 4, 5, 6, NONE, NONE, 8, 8, 8, 8, 8, 14, 15, 15, 15, 15, 19, NONE};
        for (int length = 0; length <= text.length(); length++) {
            int clauses = length < 7 ? 0 : length < 20 ? 1 : 2;
            rule(text.substring(0, length), faults[length] == NONE ? clauses : -11, faults[length]);
        }
        rule("near   ", -11, 7);
        rule("near 3   ", -11, 9);
        rule("cancel top   ", -11, 13);
        rule("cancel   ", -11, 9);
        // A number that has a fault itself has it ahead of the end.
        rule("near 33", -12, 5);
        rule("near 333", -12, 5);
        rule("near 3; near", -13, 8);
    }

    private static void firstFaultOfSeveral() {
        rule("near 10; near 3; x", -12, 5);
        rule("near 1; near 10;", -13, 8);
        rule("x; near 10;", -11, 0);
        rule("near x near", -11, 5);
        rule("near 1;; near 1;", -11, 7);
        rule("near 100 100", -12, 5);
        // At one byte the least: a number where none can stand, whatever its figures.
        rule("100;", -11, 0);
        rule("near 1; 100;", -11, 8);
        rule("cancel 100;", -11, 7);
        rule("near 1 100;", -11, 7);
        // A clause again where a clause cannot stand.
        rule("near 1; most near;", -11, 13);
        rule("near 1; cancel near 2;", -11, 15);
    }

    private static void whatCannotStandThere() {
        rule("ring 3;", -11, 0);
        rule("ringers 3;", -11, 0);
        rule("nea 3;", -11, 0);
        rule("nearr 3;", -11, 0);
        rule("table;", -11, 0);
        rule("table 3;", -11, 0);
        rule("none 3;", -11, 0);
        rule("  a", -11, 2);
        rule("near 3; far 2;", -11, 8);
        rule("near 3;far", -11, 7);
        rule("near far;", -11, 5);
        rule("near 3 far;", -11, 7);
        rule("near 3far;", -11, 6);
        rule("cancel none none;", -11, 12);
        rule("cancel nonesuch;", -11, 7);
        rule("cancel non;", -11, 7);
        rule("down ye;", -11, 5);
        rule("down yess;", -11, 5);
        rule("under none;", -11, 6);
        rule("cancel none5;", -11, 11);
    }

    private static void threeFiguresOrMore() {
        for (int clause = 0; clause < 5; clause++) {
            String word = NUMBERED[clause];
            for (String figures : new String[] {"000", "001", "005", "010", "099", "100", "999", "0000", "0001", "1000",
                "4294967297", "18446744073709551617", "0".repeat(40) + "1"}) {
                rule(word + " " + figures + ";", -12, word.length() + 1);
                rule(word + figures, -12, word.length());
            }
        }
        rule("near 2; most   0;", -12, 15);
        rule("near 2; most 13 ;", -12, 13);
    }

    private static void aClauseAgain() {
        String[] clauses = ALL.split(";");
        for (int k = 0; k < 8; k++) {
            String one = clauses[k] + ";";
            String word = one.substring(0, one.indexOf(' '));
            rule(one + one, -13, one.length());
            rule(one + "  " + word, -13, one.length() + 2);
            rule(one + word + " x", -13, one.length());
            rule(one + word + " 100;", -13, one.length());
            rule(ALL + word, -13, ALL.length());
            rule(ALL + " " + one, -13, ALL.length() + 1);
            // A longer or a shorter word is not that clause.
            rule(one + word + "s", -11, one.length());
            rule(one + word.substring(1), -11, one.length());
        }
        // Told as at first, it is told.
        rule("near 1;near 2;", -13, 7);
        rule("cancel pairs;cancel none;", -13, 13);
    }

    private static void newRuleForgets() {
        Calls x = rule(ALL, 8, NONE);
        x.feedAll("near 3;");
        Edge.due(x, x.rule(3), 1);
        saysAll(x, 3, 2, 3, 12, 0, 21, 1, 1, 1);
        Edge.due(x, x.rule(3), 0);
        saysAll(x, 3, AT_FIRST);
    }

    private static void ruleIsAsItWas() {
        String[] faulty = {"x", "near 2; most", "near 10;", "near 5; most 5; near 6;", "near 5; most 5; game 0;", "cancel none; down"};
        int[] answers = {-11, -11, -12, -13, -12, -11};
        for (int k = 0; k < faulty.length; k++) {
            Calls x = rule(ALL, 8, NONE);
            x.feedAll(faulty[k]);
            Edge.due(x, x.rule(3), answers[k]);
            saysAll(x, 3, 9, 8, 7, 6, 50, 0, 0, 0);
            Edge.due(x, x.count(6), 0);
            // What the faulty one told is not in the next one either.
            x.feedAll("ringer 1;");
            Edge.due(x, x.rule(3), 1);
            saysAll(x, 3, 1, 1, 12, 0, 21, 1, 1, 1);
        }
    }

    private static void ruleOfUnknownVillage() {
        Edge.bounds(Scenes.SOME, 0, 5, UNKNOWN, Calls::rule);
        Edge.outOf(Scenes.BRIMFUL, 0, 5, UNKNOWN, Calls::rule);
        Edge.outOf(Scenes.BARE, 0, 5, UNKNOWN, Calls::rule);
        // A faulty text stays too, and has its fault later.
        Edge.Run faulty = x -> x.feedAll("near 3; x");
        Edge.outOf(faulty, 0, 5, UNKNOWN, Calls::rule);
        Calls x = Edge.behind(faulty);
        Edge.due(x, x.rule(6), UNKNOWN);
        Edge.due(x, x.fault(), NONE);
        Edge.due(x, x.count(6), 9);
        Edge.due(x, x.rule(5), -11);
        Edge.due(x, x.fault(), 8);
    }

    // ---- promise 11

    private static void faultOfTheLatest() {
        Calls x = new Calls();
        Edge.due(x, x.fault(), NONE);
        x.feedAll("near 33;");
        x.rule(0);
        Edge.due(x, x.fault(), 5);
        Edge.due(x, x.fault(), 5);
        Edge.due(x, x.rule(6), UNKNOWN);
        Edge.due(x, x.rule(-1), UNKNOWN);
        Edge.due(x, x.fault(), 5);
        x.feedAll("table tables");
        Edge.due(x, x.fault(), 5);
        Edge.due(x, x.order(), -11);
        Edge.due(x, x.fault(), 6);
        Edge.due(x, x.rule(0), 0);
        Edge.due(x, x.fault(), NONE);
        Edge.due(x, x.order(), -11);
        Edge.due(x, x.fault(), 0);
        x.feedAll("won");
        Edge.due(x, x.order(), 1);
        Edge.due(x, x.fault(), NONE);
        Edge.due(x, x.rule(6), UNKNOWN);
        Edge.due(x, x.fault(), NONE);
    }

    // ---- promise 12

    private static void saysOfEachVillage() {
        Calls x = new Calls();
        String[] texts = {"", "ringer 0;near 0;most 1;measure 0;game 1;cancel none;down no;under no;", "cancel top;",
            "cancel pairs; down yes;", "under no;", "ringer 9;near 9;most 12;measure 20;game 99;cancel top;down yes;under yes;"};
        int[][] says = {AT_FIRST, {0, 0, 1, 0, 1, 0, 0, 0}, {2, 1, 12, 0, 21, 2, 1, 1}, AT_FIRST,
            {2, 1, 12, 0, 21, 1, 1, 0}, {9, 9, 12, 20, 99, 2, 1, 1}};
        for (int village = 0; village < 6; village++) {
            x.feedAll(texts[village]);
            Edge.letIn(x, x.rule(village));
        }
        for (int village = 0; village < 6; village++) {
            saysAll(x, village, says[village]);
        }
    }

    private static void saysRefused() {
        Edge.bounds(Scenes.SOME, 0, 5, UNKNOWN, (x, n) -> x.says(n, 0));
        Edge.bounds(Scenes.SOME, 0, 7, OUTSIDE, (x, n) -> x.says(1, n));
        Edge.bounds(Scenes.BARE, 0, 5, UNKNOWN, (x, n) -> x.says(n, 7));
        Edge.refused(Scenes.SOME, UNKNOWN, x -> x.says(6, 8));
        Edge.refused(Scenes.SOME, UNKNOWN, x -> x.says(-1, -1));
    }
}
