/** Promises 9 to 13: feed, rule, fault, says, score. */
public final class RulesTest {
    public static void main(String[] args) {
        fed();
        soundRules();
        faults();
        ruleOfUnknownVillage();
        saysBounds();
        scoreBounds();
        whatCounts();
        ringersCancel();
        ringersThatDoNotCount();
        aheadByMeasure();
        mostAtMost();
        Due.finish();
    }

    private static void fed() {
        QuoitBook x = new QuoitBook();
        Due.due("feed(0)", x.feed(0, 0), QuoitBook.OUTSIDE);
        Due.due("feed(9)", x.feed(9, 0), QuoitBook.OUTSIDE);
        Due.due("the low three bytes", x.feed(3, 0x7a7a7a7a7a746f70L), 3);
        Due.due("the word 'top' has no place", x.rule(0), -11);
        for (int k = 1; k <= 12; k++) {
            Due.due("feed", x.feed(8, 0x2020202020202020L), 8 * k);
        }
        Due.due("101 bytes", x.feed(5, 0x2020202020L), QuoitBook.FULL);
        Due.due("outside ahead of full", x.feed(9, 0), QuoitBook.OUTSIDE);
        Due.due("nothing came", x.count(6), 96);
        Due.due("100 bytes", x.feed(4, 0x20202020L), 100);
        Due.due("101 bytes", x.feed(1, 0x20L), QuoitBook.FULL);
        Due.due("blanks alone", x.rule(0), 0);
        Due.due("the text is empty", x.count(6), 0);
    }

    private static void soundRules() {
        QuoitBook x = new QuoitBook();
        Due.rule(x, 1, "ringer 9;near 0;most 1;measure 20;game 99;cancel top;down no;under no;", 8, -1);
        saysAll(x, 1, 9, 0, 1, 20, 99, 2, 0, 0);
        saysAll(x, 0, 2, 1, 12, 0, 21, 1, 1, 1);
        Due.rule(x, 1, "  under yes ;down yes;cancel   none;game1;measure 00  ;  most12;near9;ringer 0;  ", 8, -1);
        saysAll(x, 1, 0, 9, 12, 0, 1, 0, 1, 1);
        Due.rule(x, 1, "game 07;", 1, -1);
        saysAll(x, 1, 2, 1, 12, 0, 7, 1, 1, 1);
        Due.rule(x, 1, "cancel pairs;", 1, -1);
        saysAll(x, 1, 2, 1, 12, 0, 21, 1, 1, 1);
        Due.rule(x, 1, "ringer 4;", 1, -1);
        Due.rule(x, 1, "", 0, -1);
        saysAll(x, 1, 2, 1, 12, 0, 21, 1, 1, 1);
    }

    private static void saysAll(QuoitBook x, int village, int... due) {
        for (int what = 0; what < due.length; what++) {
            Due.due("says(" + village + ", " + what + ")", x.says(village, what), due[what]);
        }
    }

    private static void faults() {
        QuoitBook x = new QuoitBook();
        Due.rule(x, 4, "game 50;", 1, -1);
        Due.rule(x, 4, ";", -11, 0);
        Due.rule(x, 4, "7;", -11, 0);
        Due.rule(x, 4, "777;", -11, 0);
        Due.rule(x, 4, " ring 3;", -11, 1);
        Due.rule(x, 4, "ringers 3;", -11, 0);
        Due.rule(x, 4, "Ringer 3;", -11, 0);
        Due.rule(x, 4, "ringeR 3;", -11, 0);
        Due.rule(x, 4, "ringer", -11, 6);
        Due.rule(x, 4, "ringer  ", -11, 8);
        Due.rule(x, 4, "ringer;", -11, 6);
        Due.rule(x, 4, "ringer none;", -11, 7);
        Due.rule(x, 4, "ringer -1;", -11, 7);
        Due.rule(x, 4, "ringer 3", -11, 8);
        Due.rule(x, 4, "ringer 3   ", -11, 11);
        Due.rule(x, 4, "ringer 3 3;", -11, 9);
        Due.rule(x, 4, "ringer 3x;", -11, 8);
        Due.rule(x, 4, "ringer 3 near 2;", -11, 9);
        Due.rule(x, 4, "ringer 3;;", -11, 9);
        Due.rule(x, 4, "ringer 3;\t", -11, 9);
        Due.rule(x, 4, "ringer" + (char) 200 + "3;", -11, 6);
        Due.rule(x, 4, "ringer 10;", -12, 7);
        Due.rule(x, 4, "ringer 003;", -12, 7);
        Due.rule(x, 4, "ringer 3; near 1234", -12, 15);
        Due.rule(x, 4, "most 0;", -12, 5);
        Due.rule(x, 4, "most 13;", -12, 5);
        Due.rule(x, 4, "measure 21;", -12, 8);
        Due.rule(x, 4, "game 0;", -12, 5);
        Due.rule(x, 4, "game 100;", -12, 5);
        Due.rule(x, 4, "cancel 5;", -11, 7);
        Due.rule(x, 4, "cancel 555;", -11, 7);
        Due.rule(x, 4, "cancel yes;", -11, 7);
        Due.rule(x, 4, "cancelnone;", -11, 0);
        Due.rule(x, 4, "cancel nonetop;", -11, 7);
        Due.rule(x, 4, "cancel none5;", -11, 11);
        Due.rule(x, 4, "down none;", -11, 5);
        Due.rule(x, 4, "down 1;", -11, 5);
        Due.rule(x, 4, "near 2;near 3;", -13, 7);
        Due.rule(x, 4, "near 2;  near", -13, 9);
        Due.rule(x, 4, "near 2;  nearer", -11, 9);
        Due.rule(x, 4, "near 10; near 1;", -12, 5);
        saysAll(x, 4, 2, 1, 12, 0, 50, 1, 1, 1);
        Due.rule(x, 4, "near 2;", 1, -1);
        Due.due("a sound rule takes the fault away", x.fault(), QuoitBook.NONE);
    }

    private static void ruleOfUnknownVillage() {
        QuoitBook x = new QuoitBook();
        Due.rule(x, 0, "x", -11, 0);
        Due.feed(x, "near 3;");
        Due.due("rule(6)", x.rule(6), QuoitBook.UNKNOWN);
        Due.due("rule(-1)", x.rule(-1), QuoitBook.UNKNOWN);
        Due.due("the text stays", x.count(6), 7);
        Due.due("the fault of the one before", x.fault(), 0);
        Due.due("rule(5)", x.rule(5), 1);
        Due.due("says(5, 1)", x.says(5, 1), 3);
    }

    private static void saysBounds() {
        QuoitBook x = new QuoitBook();
        Due.due("says(6, 0)", x.says(6, 0), QuoitBook.UNKNOWN);
        Due.due("says(-1, 8)", x.says(-1, 8), QuoitBook.UNKNOWN);
        Due.due("says(0, 8)", x.says(0, 8), QuoitBook.OUTSIDE);
        Due.due("says(0, -1)", x.says(0, -1), QuoitBook.OUTSIDE);
    }

    private static void scoreBounds() {
        QuoitBook x = new QuoitBook();
        Due.due("score(6, 6)", x.score(6, 6), QuoitBook.UNKNOWN);
        Due.due("score(-1, 0)", x.score(-1, 0), QuoitBook.UNKNOWN);
        Due.due("score(0, 6)", x.score(0, 6), QuoitBook.OUTSIDE);
        Due.due("score(0, -1)", x.score(0, -1), QuoitBook.OUTSIDE);
        for (int what = 0; what < 6; what++) {
            Due.due("score of bare clay", x.score(3, what), 0);
        }
    }

    private static void scoreAll(QuoitBook x, int village, int... due) {
        for (int what = 0; what < due.length; what++) {
            Due.due("score(" + village + ", " + what + ")", x.score(village, what), due[what]);
        }
    }

    private static void whatCounts() {
        QuoitBook x = new QuoitBook();
        Due.rule(x, 1, "down no;", 1, -1);
        Due.rule(x, 2, "under no;", 1, -1);
        Due.rule(x, 3, "under no; down no;", 2, -1);
        x.iron(0, 100, 0, 30, 15, 0, true);
        x.iron(1, 120, 0, 30, 15, 0, false);
        x.iron(1, 130, 0, 30, 15, 0, true);
        x.iron(0, 200, 200, 30, 15, 0, true);
        scoreAll(x, 0, 1, 1, 0, 15, 0, 1);
        scoreAll(x, 1, 1, 1, 0, 13, 0, 1);
        scoreAll(x, 2, -2, 0, 2, 14, 0, 6);
        scoreAll(x, 3, -1, 0, 1, 12, 0, 4);
        x.off(2);
        // Iron 1 does not count by rule 3, but lies on iron 0 all the same.
        scoreAll(x, 3, 1, 1, 0, 8, 0, 8);
        x.off(1);
        scoreAll(x, 2, 2, 2, 0, 9, 0, 9);
    }

    private static void ringersCancel() {
        QuoitBook x = new QuoitBook();
        Due.rule(x, 1, "cancel none; ringer 3;", 2, -1);
        Due.rule(x, 2, "cancel top; ringer 5;", 2, -1);
        int[] sides = {0, 1, 0, 0, 1, 0};
        for (int k = 0; k < sides.length; k++) {
            x.iron(sides[k], k, 0, 30, 15, 0, true);
        }
        scoreAll(x, 0, 4, 4, 0, 63, 40, 0);
        scoreAll(x, 1, 6, 12, 6, 63, 63, 0);
        scoreAll(x, 2, 5, 5, 0, 63, 32, 0);
        x.off(5);
        scoreAll(x, 0, 2, 2, 0, 31, 8, 0);
        scoreAll(x, 2, -5, 0, 5, 31, 16, 0);
        x.off(2);
        scoreAll(x, 0, 0, 0, 0, 27, 0, 0);
        x.knock(0, 599, 0);
        scoreAll(x, 0, -1, 1, 2, 27, 16, 1);
    }

    private static void ringersThatDoNotCount() {
        QuoitBook x = new QuoitBook();
        Due.rule(x, 1, "down no;", 1, -1);
        Due.rule(x, 2, "under no;", 1, -1);
        x.iron(0, 0, 0, 30, 15, 0, true);
        x.iron(1, 1, 0, 30, 15, 0, false);
        scoreAll(x, 0, 0, 0, 0, 3, 0, 0);
        scoreAll(x, 1, 2, 2, 0, 1, 1, 0);
        scoreAll(x, 2, -2, 0, 2, 2, 2, 0);
    }

    private static void aheadByMeasure() {
        QuoitBook x = new QuoitBook();
        Due.rule(x, 1, "measure 10; near 2;", 2, -1);
        Due.rule(x, 2, "measure 9;", 1, -1);
        Due.rule(x, 3, "near 0;", 1, -1);
        x.iron(1, 100, 0, 30, 15, 0, true);
        x.iron(0, 0, 90, 30, 15, 0, true);
        x.iron(0, 99, 0, 30, 15, 0, true);
        x.iron(0, 0, 100, 30, 15, 0, true);
        scoreAll(x, 0, 2, 2, 0, 15, 0, 6);
        scoreAll(x, 1, 0, 0, 0, 15, 0, 0);
        scoreAll(x, 2, 1, 1, 0, 15, 0, 2);
        Due.due("near 0 brings nothing", x.score(3, 0), 0);
        x.knock(1, 0, 89);
        Due.due("11 nearer", x.score(1, 0), 2);
        x.off(0);
        scoreAll(x, 1, 6, 6, 0, 14, 0, 14);
        // Ringers are not held against.
        x.iron(1, 0, 0, 30, 15, 0, true);
        scoreAll(x, 0, 1, 3, 2, 30, 16, 14);
    }

    private static void mostAtMost() {
        QuoitBook x = new QuoitBook();
        Due.rule(x, 1, "most 2; near 3;", 2, -1);
        x.iron(0, 90, 0, 30, 15, 0, true);
        x.iron(1, 500, 0, 30, 15, 0, true);
        x.iron(0, 80, 0, 30, 15, 0, true);
        x.iron(0, 70, 0, 30, 15, 0, true);
        scoreAll(x, 0, 3, 3, 0, 15, 0, 13);
        scoreAll(x, 1, 6, 6, 0, 15, 0, 5);
        x.off(0);
        scoreAll(x, 1, 6, 6, 0, 14, 0, 12);
        x.off(2);
        scoreAll(x, 1, 3, 3, 0, 10, 0, 8);
    }
}
