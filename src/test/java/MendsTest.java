/** Promises 15 and 16: mends, and nothing else changes. */
public final class MendsTest {
    private static final Check CHECK = new Check("MendsTest");
    private static final int GOOD = 0;
    private static final int BANNED = 1;
    private static final int SHORT = 2;
    private static final int LOOSE = 3;

    public static void main(String[] args) {
        greatLetters();
        endingsStay();
        sameLettersOtherEnding();
        leastGoodTerm();
        kindsThatAreMended();
        nothingElseChanges();
        noSuchUse();
        sixHundredBytes();
        mendAllOfAText();
        mendAllSkips();
        mendAllGoesOn();
        mendAllHundredTimes();
        CHECK.end();
    }

    private static String mended(Told told, String signs, int use) {
        told.text(0, signs);
        boolean done = told.keeper.mend(0, use);
        return done + " " + told.text(0);
    }

    private static Told cats() {
        Told told = new Told();
        told.ending("s");
        told.term("house cat", 0, GOOD, 1);
        told.term("puss", 0, BANNED, 1);
        told.term("a", 0, LOOSE, 1);
        told.term("tom cat", 0, BANNED, 1);
        return told;
    }

    private static void greatLetters() {
        Told told = cats();
        CHECK.due("small", mended(told, "puss", 0), "true house cat");
        CHECK.due("the first one great", mended(told, "Puss", 0), "true House cat");
        CHECK.due("all great", mended(told, "PUSS", 0), "true HOUSE CAT");
        CHECK.due("all great with an ending", mended(told, "PUSSS", 0), "true HOUSE CATS");
        CHECK.due("a small ending", mended(told, "PUSSs", 0), "true House cats");
        CHECK.due("a great one inside", mended(told, "pUSS", 0), "true house cat");
        CHECK.due("one great letter alone", mended(told, "A", 0), "true House cat");
        CHECK.due("one small letter alone", mended(told, "a", 0), "true house cat");
        CHECK.due("one great letter with a great ending", mended(told, "AS", 0), "true HOUSE CATS");
        CHECK.due("two words, all great", mended(told, "TOM\nCAT", 0), "true HOUSE CAT");
        CHECK.due("two words, the first one great", mended(told, "Tom Cat", 0), "true House cat");
        CHECK.due("two words, one all great", mended(told, "TOM cat", 0), "true House cat");
        CHECK.due("two words, the second great", mended(told, "tom CAT", 0), "true house cat");
        told.term("azy", 3, GOOD, 1);
        told.term("zazz", 3, BANNED, 1);
        CHECK.due("the last letter of all", mended(told, "ZAZZ", 0), "true AZY");
        CHECK.due("the last letter at the begin", mended(told, "Zazz", 0), "true Azy");
    }

    private static void endingsStay() {
        Told told = new Told();
        told.ending("s");
        told.ending("ed");
        told.term("walk", 0, GOOD, 1);
        told.term("stroll", 0, BANNED, 3);
        CHECK.due("no ending", mended(told, "stroll", 0), "true walk");
        CHECK.due("one that it takes", mended(told, "strolls", 0), "true walks");
        CHECK.due("one that it doesn't take", mended(told, "strolled", 0), "false strolled");
        CHECK.due("mends ever", told.keeper.total(4), 2);
    }

    private static void sameLettersOtherEnding() {
        Told told = new Told();
        told.ending("s");
        told.ending("s");
        told.term("walk", 0, GOOD, 2);
        told.term("stroll", 0, BANNED, 3);
        CHECK.due("it is the ending of the least number", mended(told, "strolls", 0), "false strolls");
        CHECK.due("told so, too", told.keeper.use(0, 0, 3), 0);
    }

    private static void leastGoodTerm() {
        Told told = new Told();
        told.term("puss", 0, BANNED, 0);
        told.term("dog", 1, GOOD, 0);
        told.term("moggy", 0, LOOSE, 0);
        told.term("cat", 0, GOOD, 0);
        told.term("feline", 0, GOOD, 0);
        CHECK.due("the least", mended(told, "puss", 0), "true cat");
        told.keeper.kind(3, SHORT);
        CHECK.due("the next good one", mended(told, "puss", 0), "true feline");
        told.keeper.kind(4, LOOSE);
        CHECK.due("no good one", mended(told, "puss", 0), "false puss");
    }

    private static void kindsThatAreMended() {
        Told told = new Told();
        told.term("cat", 0, GOOD, 0);
        told.term("puss", 0, BANNED, 0);
        told.term("jam", 1, BANNED, 0);
        told.term("jam", 2, BANNED, 0);
        told.term("marmalade", 1, GOOD, 0);
        String[] due = {"false puss", "true cat", "false puss", "true cat"};
        for (int kind = 0; kind < 4; kind++) {
            told.keeper.kind(1, kind);
            CHECK.due("kind " + kind, mended(told, "puss", 0), due[kind]);
        }
        CHECK.due("a good one", mended(told, "cat", 0), "false cat");
        CHECK.due("a doubtful one", mended(told, "jam", 0), "false jam");
    }

    private static void nothingElseChanges() {
        Told told = cats();
        String ahead = "\0PUSS\n" + (char) 255 + " x ";
        String behind = "!\n\n Puss" + (char) 128;
        CHECK.due("longer", mended(told, ahead + "pusss" + behind, 1), "true " + ahead + "house cats" + behind);
        told.term("q", 5, GOOD, 0);
        told.term("quadrangle", 5, LOOSE, 0);
        CHECK.due("shorter", mended(told, ahead + "Quadrangle" + behind, 1), "true " + ahead + "Q" + behind);
        told.text(1, "puss");
        told.keeper.mend(0, 0);
        CHECK.due("another text", told.text(1), "puss");
        CHECK.due("ten letters, one for them", mended(told, "QUADRANGLE", 0), "true Q");
    }

    private static void noSuchUse() {
        Told told = cats();
        int[] wrong = {-1, 1, Integer.MIN_VALUE, Integer.MAX_VALUE};
        for (int use : wrong) {
            CHECK.due("use " + use, mended(told, "puss", use), "false puss");
        }
        CHECK.due("of an empty text", told.keeper.mend(3, 0), false);
        told.text(1, "puss puss");
        CHECK.due("two uses in another text", told.keeper.uses(1), 2);
        CHECK.due("one in this", mended(told, "puss", 1), "false puss");
        CHECK.due("no mends ever", told.keeper.total(4), 0);
    }

    private static void sixHundredBytes() {
        Told told = cats();
        String fits = "puss" + ".".repeat(591);
        CHECK.due("just 600", mended(told, fits, 0), "true house cat" + ".".repeat(591));
        String over = "puss" + ".".repeat(592);
        CHECK.due("601", mended(told, over, 0), "false " + over);
        CHECK.due("one mend ever", told.keeper.total(4), 1);
    }

    private static void mendAllOfAText() {
        Told told = cats();
        told.text(0, "Puss and PUSSS, a dog; cat, tom cats.");
        CHECK.due("all", told.keeper.mendAll(0), 4);
        CHECK.due("the text", told.text(0), "House cat and HOUSE CATS, house cat dog; cat, house cats.");
        CHECK.due("none is left", told.keeper.mendAll(0), 0);
        CHECK.due("of an empty text", told.keeper.mendAll(1), 0);
        CHECK.due("mends ever", told.keeper.total(4), 4);
    }

    private static void mendAllSkips() {
        Told told = new Told();
        told.term("abcdefghijkl", 0, GOOD, 0);
        told.term("x", 0, BANNED, 0);
        told.term("b", 1, GOOD, 0);
        told.term("yy", 1, BANNED, 0);
        told.text(0, "x yy" + ".".repeat(586));
        CHECK.due("too long at first, not later", told.keeper.mendAll(0), 2);
        CHECK.due("both", told.text(0), "abcdefghijkl b" + ".".repeat(586));
        told.text(0, "x yy" + ".".repeat(587));
        CHECK.due("too long for ever", told.keeper.mendAll(0), 1);
        CHECK.due("the other one", told.text(0), "x b" + ".".repeat(587));
    }

    private static void mendAllGoesOn() {
        Told told = new Told();
        told.term("b", 0, GOOD, 0);
        told.term("a", 0, BANNED, 0);
        told.term("b c", 1, LOOSE, 0);
        told.term("d", 1, GOOD, 0);
        told.text(0, "a c");
        CHECK.due("a mend makes another use", told.keeper.mendAll(0), 2);
        CHECK.due("the text", told.text(0), "d");
    }

    private static void mendAllHundredTimes() {
        Told told = new Told();
        told.term("cat", 0, BANNED, 0);
        told.term("cat", 0, GOOD, 0);
        told.text(0, "Cat");
        CHECK.due("by itself without end", told.keeper.mendAll(0), 100);
        CHECK.due("again", told.keeper.mendAll(0), 100);
        CHECK.due("mends ever", told.keeper.total(4), 200);
        Told many = new Told();
        many.term("b", 0, GOOD, 0);
        many.term("a", 0, BANNED, 0);
        many.text(0, "a ".repeat(101));
        CHECK.due("a hundred and one", many.keeper.mendAll(0), 100);
        CHECK.due("the last one stays", many.text(0), "b ".repeat(100) + "a ");
        CHECK.due("and is mended then", many.keeper.mendAll(0), 1);
    }
}
