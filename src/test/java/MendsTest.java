/** Promises 15 and 16: mends, and nothing else changes. */
public final class MendsTest {
    private static final Check CHECK = new Check("MendsTest");
    private static final int GOOD = 0;
    private static final int BANNED = 1;
    private static final int SHORT = 2;
    private static final int LOOSE = 3;
    private static final int NONE = TermKeeper.NONE;

    public static void main(String[] args) {
        bannedOrLoose();
        doubtfulIsNotMended();
        leastGoodTerm();
        noGoodTerm();
        sameEnding();
        rowAlone();
        endingNotTaken();
        endingOfTheLeastNumber();
        firstLetterGreat();
        allGreat();
        oneGreatLetter();
        lastLettersGreat();
        nothingElseChanges();
        lineEndInTheUse();
        otherTextsStay();
        noneSuch();
        longestGoodTerm();
        sixHundredBytes();
        fullText();
        mendAllOfAText();
        mendAllSkips();
        mendAllGoesOn();
        noneThatCanBe();
        ninetyNineAndHundred();
        hundredAtMost();
        hundredOfOneUse();
        CHECK.end();
    }

    private static String mended(Told told, String signs, int use) {
        told.text(0, signs);
        boolean done = told.mend(0, use);
        return done + " " + told.text(0);
    }

    private static Told cats() {
        Told told = new Told();
        told.ending("s");
        told.term("house cat", 0, GOOD, 1);
        told.term("puss", 0, BANNED, 1);
        told.term("a", 0, LOOSE, 1);
        told.term("tom cat", 0, BANNED, 1);
        return told;
    }

    private static void bannedOrLoose() {
        CHECK.sentence("==== 3: MEND of a USE whose TERM is BANNED or LOOSE");
        Told told = new Told();
        told.term("cat", 0, GOOD, 0);
        told.term("puss", 0, BANNED, 0);
        String[] due = {"false puss", "true cat", "false puss", "true cat"};
        int[] ever = {0, 1, 1, 2};
        for (int kind = 0; kind < 4; kind++) {
            told.kind(1, kind);
            CHECK.due("kind " + kind, mended(told, "puss", 0), due[kind]);
            CHECK.due("mends ever", told.total(4), ever[kind]);
        }
        CHECK.due("the good one", mended(told, "cat", 0), "false cat");
    }

    private static void doubtfulIsNotMended() {
        CHECK.sentence("15: False, and nothing changes: no MEND (DOUBTFUL: of no TERM)");
        Told told = new Told();
        told.term("jam", 1, BANNED, 0);
        told.term("jam", 2, BANNED, 0);
        told.term("marmalade", 1, GOOD, 0);
        told.term("queue", 2, GOOD, 0);
        told.neighbour("road", 2);
        CHECK.due("doubtful", mended(told, "jam", 0), "false jam");
        CHECK.due("all of them", told.mendAll(0), 0);
        CHECK.due("told apart", mended(told, "road jam", 0), "true road queue");
    }

    private static void leastGoodTerm() {
        CHECK.sentence("==== 3: the GOOD TERM of its THING with the least number");
        Told told = new Told();
        told.term("puss", 0, BANNED, 0);
        told.term("dog", 1, GOOD, 0);
        told.term("moggy", 0, LOOSE, 0);
        told.term("cat", 0, GOOD, 0);
        told.term("feline", 0, GOOD, 0);
        CHECK.due("the least", mended(told, "puss", 0), "true cat");
        told.kind(3, SHORT);
        CHECK.due("the next good one", mended(told, "puss", 0), "true feline");
        told.kind(2, GOOD);
        CHECK.due("a lesser one made good", mended(told, "puss", 0), "true moggy");
    }

    private static void noGoodTerm() {
        CHECK.sentence("15: False, and nothing changes: no MEND (no GOOD TERM of its THING)");
        Told told = new Told();
        told.term("dog", 1, GOOD, 0);
        told.term("puss", 0, BANNED, 0);
        told.term("ct", 0, SHORT, 0);
        told.term("moggy", 0, LOOSE, 0);
        CHECK.due("that of another thing isn't taken", mended(told, "a Puss!", 0), "false a Puss!");
        CHECK.due("all of them", told.mendAll(0), 0);
        CHECK.due("mends ever", told.total(4), 0);
    }

    private static void sameEnding() {
        CHECK.sentence("==== 3: with the same ENDING");
        Told told = new Told();
        told.ending("s");
        told.ending("ed");
        told.ending("er");
        told.ending("ing");
        told.ending("ness");
        told.ending("x");
        told.term("walk on", 0, GOOD, 33);
        told.term("stroll", 0, BANNED, 63);
        CHECK.due("the first one", mended(told, "strolls", 0), "true walk ons");
        CHECK.due("the last one", mended(told, "strollx", 0), "true walk onx");
        CHECK.due("the mended one's ending", told.use(0, 0, 3), 5);
        CHECK.due("is mended no more", told.mend(0, 0), false);
    }

    private static void rowAlone() {
        CHECK.sentence("==== 3: (the TERM's row alone, if the FORM has none)");
        Told told = new Told();
        told.ending("s");
        told.term("walk", 0, GOOD, 1);
        told.term("stroll", 0, BANNED, 1);
        told.term("run", 1, GOOD, 0);
        told.term("sprints", 1, BANNED, 1);
        CHECK.due("one that takes it", mended(told, "stroll", 0), "true walk");
        CHECK.due("one that takes none", mended(told, "sprints", 0), "true run");
    }

    private static void endingNotTaken() {
        CHECK.sentence("==== 3: if the GOOD TERM doesn't take that ENDING, no MEND");
        Told told = new Told();
        told.ending("s");
        told.ending("ed");
        told.term("walk", 0, GOOD, 1);
        told.term("stroll", 0, BANNED, 3);
        told.term("amble", 0, GOOD, 3);
        CHECK.due("though another good one does", mended(told, "a strolled b", 0), "false a strolled b");
        CHECK.due("mends ever", told.total(4), 0);
        CHECK.due("all but that", mended(told, "strolled stroll", 1), "true strolled walk");
    }

    private static void endingOfTheLeastNumber() {
        CHECK.sentence("==== 3: A USE that is a FORM of its TERM in several ways: by the ENDING of the least number");
        Told told = new Told();
        told.ending("s");
        told.ending("s");
        told.ending("s");
        told.term("walk", 0, GOOD, 2);
        told.term("stroll", 0, BANNED, 7);
        told.term("amble", 0, BANNED, 6);
        CHECK.due("that isn't taken", mended(told, "strolls", 0), "false strolls");
        CHECK.due("its number", told.use(0, 0, 3), 0);
        CHECK.due("of those that it takes", mended(told, "ambles", 0), "true walks");
        told.text(0, "ambles");
        CHECK.due("that one's number", told.use(0, 0, 3), 1);
    }

    private static void firstLetterGreat() {
        CHECK.sentence("==== 3: its first letter is great, if the USE's first one was");
        Told told = cats();
        CHECK.due("small", mended(told, "puss", 0), "true house cat");
        CHECK.due("the first one great", mended(told, "Puss", 0), "true House cat");
        CHECK.due("with an ending", mended(told, "Pusss", 0), "true House cats");
        CHECK.due("a small ending", mended(told, "PUSSs", 0), "true House cats");
        CHECK.due("all but the first", mended(told, "pUSS", 0), "true house cat");
        CHECK.due("both words' first", mended(told, "Tom Cat", 0), "true House cat");
        CHECK.due("one word all great", mended(told, "TOM cat", 0), "true House cat");
        CHECK.due("all but one letter", mended(told, "TOM CAt", 0), "true House cat");
        CHECK.due("the second word", mended(told, "tom CAT", 0), "true house cat");
        CHECK.due("a great one ahead of the use", mended(told, "X puss", 0), "true X house cat");
    }

    private static void allGreat() {
        CHECK.sentence("==== 3: and all are, if all of the USE's were and these were two or more");
        Told told = cats();
        CHECK.due("all great", mended(told, "PUSS", 0), "true HOUSE CAT");
        CHECK.due("all great with an ending", mended(told, "PUSSS", 0), "true HOUSE CATS");
        CHECK.due("two letters", mended(told, "AS", 0), "true HOUSE CATS");
        CHECK.due("two words", mended(told, "TOM CAT", 0), "true HOUSE CAT");
        CHECK.due("two words by a line end", mended(told, "TOM\nCATS", 0), "true HOUSE CATS");
        CHECK.due("small ones beside it stay", mended(told, "x PUSS y", 0), "true x HOUSE CAT y");
    }

    private static void oneGreatLetter() {
        CHECK.sentence("==== 3: these were two or more (not one)");
        Told told = cats();
        CHECK.due("one great letter", mended(told, "A", 0), "true House cat");
        CHECK.due("one small letter", mended(told, "a", 0), "true house cat");
        CHECK.due("one great letter, a small ending", mended(told, "As", 0), "true House cats");
        CHECK.due("a great one beside it", mended(told, "A B", 0), "true House cat B");
    }

    private static void lastLettersGreat() {
        CHECK.sentence("==== 3: great (of a and z, too)");
        Told told = new Told();
        told.term("azy", 3, GOOD, 0);
        told.term("zazz", 3, BANNED, 0);
        told.term("q", 5, GOOD, 0);
        told.term("quadrangle", 5, LOOSE, 0);
        CHECK.due("all", mended(told, "ZAZZ", 0), "true AZY");
        CHECK.due("the first", mended(told, "Zazz", 0), "true Azy");
        CHECK.due("many for one", mended(told, "QUADRANGLE", 0), "true Q");
        CHECK.due("one of one", mended(told, "Quadrangle", 0), "true Q");
        CHECK.due("none of one", mended(told, "quadranglE", 0), "true q");
    }

    private static void nothingElseChanges() {
        CHECK.sentence("==== 3: Nothing else of the TEXT changes");
        Told told = cats();
        String ahead = "\0PUSS\n" + (char) 255 + " x ";
        String behind = "!\n\n Puss" + (char) 128;
        CHECK.due("longer", mended(told, ahead + "pusss" + behind, 1), "true " + ahead + "house cats" + behind);
        told.term("q", 5, GOOD, 0);
        told.term("quadrangle", 5, LOOSE, 0);
        CHECK.due("shorter", mended(told, ahead + "Quadrangle" + behind, 1), "true " + ahead + "Q" + behind);
        told.term("dog", 6, GOOD, 0);
        told.term("cur", 6, BANNED, 0);
        CHECK.due("as long", mended(told, ahead + "CUR" + behind, 1), "true " + ahead + "DOG" + behind);
        CHECK.due("at the begin", mended(told, "cur" + behind, 0), "true dog" + behind);
        CHECK.due("at the end", mended(told, ahead + "quadrangle", 1), "true " + ahead + "q");
    }

    private static void lineEndInTheUse() {
        CHECK.sentence("==== 3: its place takes the GOOD TERM (the line end in the USE goes, that beside it stays)");
        Told told = cats();
        CHECK.due("inside", mended(told, "tom\ncat", 0), "true house cat");
        CHECK.due("beside", mended(told, "x\npuss\ny", 0), "true x\nhouse cat\ny");
    }

    private static void otherTextsStay() {
        CHECK.sentence("==== 3: Nothing else changes (other TEXTS, what waits)");
        Told told = cats();
        told.text(0, "puss");
        told.text(1, "puss");
        told.text(7, "puss");
        told.wait("ab");
        CHECK.due("mended", told.mend(1, 0), true);
        CHECK.due("text 0", told.text(0), "puss");
        CHECK.due("text 1", told.text(1), "house cat");
        CHECK.due("text 7", told.text(7), "puss");
        CHECK.due("all of one", told.mendAll(7), 1);
        CHECK.due("text 0 still", told.text(0), "puss");
        CHECK.due("totals", told.totals(), "1 4 2 1 2");
    }

    private static void noneSuch() {
        CHECK.sentence("15: False, and nothing changes: there is none such");
        Told told = cats();
        for (int use : new int[] {-1, 2, 3, Integer.MIN_VALUE, Integer.MAX_VALUE}) {
            CHECK.due("use " + use, mended(told, "puss puss", use), "false puss puss");
        }
        CHECK.due("of an empty text", told.mend(3, 0), false);
        told.text(1, "puss puss puss");
        CHECK.due("three in another text", told.uses(1), 3);
        CHECK.due("two in this", told.mend(0, 2), false);
        CHECK.due("no mends ever", told.total(4), 0);
        CHECK.due("the last one", mended(told, "puss puss", 1), "true puss house cat");
    }

    private static void longestGoodTerm() {
        CHECK.sentence("==== 3: its place takes the GOOD TERM (three WORDS of 12 LETTERS, an ENDING of 4)");
        Told told = new Told();
        String row = "abcdefghijkl mnopqrstuvwx yzabcdefghij";
        told.ending("ness");
        told.term(row, 0, GOOD, 1);
        told.term("x", 0, BANNED, 1);
        CHECK.due("with its ending", mended(told, "(xness)", 0), "true (" + row + "ness)");
        CHECK.due("and back to its row", mended(told, "X x", 1), "true X " + row);
        CHECK.due("all great", mended(told, "XNESS", 0), "true " + row.toUpperCase() + "NESS");
        told.kind(0, BANNED);
        told.kind(1, GOOD);
        CHECK.due("the other way round", mended(told, row + "ness.", 0), "true xness.");
    }

    private static void sixHundredBytes() {
        CHECK.sentence("15: False, and nothing changes: the TEXT would have more than 600 bytes");
        for (int size = 595; size <= 600; size++) {
            Told told = cats();
            told.text(0, ".".repeat(size - 8) + "puss,ab!");
            boolean fits = size == 595;
            CHECK.due("of " + size, told.mend(0, 0), fits);
            CHECK.due("bytes then", told.byteAt(0, NONE), fits ? 600 : size);
            CHECK.due("the end", told.part(0, size - 9, size), fits ? ".house ca" : ".puss,ab!");
            CHECK.due("the last byte", told.byteAt(0, fits ? 599 : size - 1), (int) '!');
            CHECK.due("mends ever", told.total(4), fits ? 1 : 0);
            CHECK.due("all of it", told.mendAll(0), 0);
        }
    }

    private static void fullText() {
        CHECK.sentence("15: more than 600 bytes (not 600 themselves)");
        Told told = new Told();
        told.term("dog", 6, GOOD, 0);
        told.term("cur", 6, BANNED, 0);
        told.term("whelp", 6, LOOSE, 0);
        told.text(0, "cur" + ".".repeat(592) + "Whelp");
        CHECK.due("as long", told.mend(0, 0), true);
        CHECK.due("600 bytes stay", told.byteAt(0, NONE), 600);
        CHECK.due("the begin", told.part(0, 0, 4), "dog.");
        CHECK.due("shorter", told.mend(0, 1), true);
        CHECK.due("598 bytes", told.byteAt(0, NONE), 598);
        CHECK.due("the end", told.part(0, 594, 598), ".Dog");
    }

    private static void mendAllOfAText() {
        CHECK.sentence("16: All of a TEXT: MEND of the first USE that can be, again and again: how many");
        Told told = cats();
        told.text(0, "Puss and PUSSS, a dog; cat, tom cats.");
        CHECK.due("all", told.mendAll(0), 4);
        CHECK.due("the text", told.text(0), "House cat and HOUSE CATS, house cat dog; cat, house cats.");
        CHECK.due("mends ever", told.total(4), 4);
    }

    private static void mendAllSkips() {
        CHECK.sentence("16: the first USE that can be");
        Told told = new Told();
        told.term("abcdefghijkl", 0, GOOD, 0);
        told.term("x", 0, BANNED, 0);
        told.term("b", 1, GOOD, 0);
        told.term("yy", 1, BANNED, 0);
        told.text(0, "x yy" + ".".repeat(586));
        CHECK.due("too long at first, not later", told.mendAll(0), 2);
        CHECK.due("both", told.part(0, 0, 15), "abcdefghijkl b.");
        CHECK.due("600 bytes", told.byteAt(0, NONE), 600);
        told.text(0, "x yy" + ".".repeat(587));
        CHECK.due("too long for ever", told.mendAll(0), 1);
        CHECK.due("the other one", told.part(0, 0, 4), "x b.");
        CHECK.due("590 bytes", told.byteAt(0, NONE), 590);
    }

    private static void mendAllGoesOn() {
        CHECK.sentence("16: again and again, as long as there is one");
        Told told = new Told();
        told.term("b", 0, GOOD, 0);
        told.term("a", 0, BANNED, 0);
        told.term("b c", 1, LOOSE, 0);
        told.term("d", 1, GOOD, 0);
        told.text(0, "a c");
        CHECK.due("a mend makes another use", told.mendAll(0), 2);
        CHECK.due("the text", told.text(0), "d");
        told.text(0, "a c a c a");
        CHECK.due("several", told.mendAll(0), 5);
        CHECK.due("the text then", told.text(0), "d d b");
    }

    private static void noneThatCanBe() {
        CHECK.sentence("16: how many (none)");
        Told told = cats();
        CHECK.due("of an empty text", told.mendAll(1), 0);
        told.text(1, "house cat dog");
        CHECK.due("of good ones", told.mendAll(1), 0);
        CHECK.due("the text", told.text(1), "house cat dog");
        CHECK.due("mends ever", told.total(4), 0);
    }

    private static void ninetyNineAndHundred() {
        CHECK.sentence("16: 100 times at most (99, 100)");
        for (int many = 99; many <= 100; many++) {
            Told told = new Told();
            told.term("b", 0, GOOD, 0);
            told.term("a", 0, BANNED, 0);
            told.text(0, "a ".repeat(many));
            CHECK.due(many + " uses", told.mendAll(0), many);
            CHECK.due("the first and the last", told.part(0, 0, 1) + told.part(0, 2 * many - 2, 2 * many), "bb ");
            CHECK.due("none is left", told.mendAll(0), 0);
            CHECK.due("mends ever", told.total(4), many);
        }
    }

    private static void hundredAtMost() {
        CHECK.sentence("16: 100 times at most (101 and more)");
        Told told = new Told();
        told.term("b", 0, GOOD, 0);
        told.term("a", 0, BANNED, 0);
        told.text(0, "a ".repeat(101));
        CHECK.due("a hundred and one", told.mendAll(0), 100);
        CHECK.due("the last one stays", told.text(0), "b ".repeat(100) + "a ");
        CHECK.due("and is mended then", told.mendAll(0), 1);
        told.text(1, "a ".repeat(300));
        CHECK.due("three hundred", told.mendAll(1), 100);
        CHECK.due("the hundredth and the next", told.part(1, 198, 201), "b a");
        CHECK.due("mends ever", told.total(4), 201);
    }

    private static void hundredOfOneUse() {
        CHECK.sentence("16: 100 times at most (a MEND that leaves what it found)");
        Told told = new Told();
        told.term("cat", 0, BANNED, 0);
        told.term("cat", 0, GOOD, 0);
        told.text(0, "Cat");
        CHECK.due("without end", told.mendAll(0), 100);
        CHECK.due("again", told.mendAll(0), 100);
        CHECK.due("one more", told.mend(0, 0), true);
        CHECK.due("mends ever", told.total(4), 201);
        CHECK.due("the text", told.text(0), "Cat");
    }
}
