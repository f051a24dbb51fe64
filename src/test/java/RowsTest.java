import java.util.NoSuchElementException;

/** Promises 1 to 5, 7 to 9 and 21: what is told of endings, terms, neighbours and things. */
public final class RowsTest {
    private static final Check CHECK = new Check("RowsTest");
    private static final Class<IllegalArgumentException> WRONG = IllegalArgumentException.class;
    private static final Class<NoSuchElementException> MISSING = NoSuchElementException.class;
    private static final int NONE = TermKeeper.NONE;

    public static void main(String[] args) {
        newObject();
        letters();
        endings();
        endingsAreSix();
        termRows();
        termNumbers();
        termsWrong();
        neighbours();
        neighboursWrong();
        known();
        kinds();
        about();
        totals();
        CHECK.end();
    }

    private static void newObject() {
        TermKeeper keeper = new TermKeeper();
        for (int what = 0; what < 5; what++) {
            CHECK.due("total of a new object", keeper.total(what), 0);
        }
        for (int text = 0; text < 8; text++) {
            CHECK.due("bytes of a new text", keeper.byteAt(text, NONE), 0);
            CHECK.due("uses of a new text", keeper.uses(text), 0);
        }
        CHECK.due("ring of a new object", keeper.ring(NONE), 0);
        CHECK.due("fewest of a new object", keeper.fewest(), 0);
        CHECK.refused("no term yet", MISSING, () -> keeper.count(0));
    }

    private static void letters() {
        TermKeeper keeper = new TermKeeper();
        CHECK.due("a below", keeper.letter(-1), NONE);
        CHECK.due("behind the blank", keeper.letter(27), NONE);
        CHECK.due("far below", keeper.letter(Integer.MIN_VALUE), NONE);
        CHECK.due("far above", keeper.letter(Integer.MAX_VALUE), NONE);
        CHECK.due("nothing came", keeper.total(2), 0);
        for (int i = 0; i < 40; i++) {
            CHECK.due("letter " + i, keeper.letter(i % 27), i + 1);
        }
        CHECK.due("the forty-first", keeper.letter(0), NONE);
        CHECK.due("a blank as the forty-first", keeper.letter(26), NONE);
        CHECK.due("forty wait", keeper.total(2), 40);
    }

    private static void endings() {
        Told told = new Told();
        CHECK.due("four letters", told.ending("ness"), 0);
        CHECK.due("nothing waits then", told.keeper.total(2), 0);
        CHECK.due("five letters", told.ending("nesss"), NONE);
        CHECK.due("nothing waits after five", told.keeper.total(2), 0);
        CHECK.due("nothing told", told.ending(""), NONE);
        CHECK.due("a blank alone", told.ending(" "), NONE);
        CHECK.due("a blank ahead", told.ending(" s"), NONE);
        CHECK.due("a blank behind", told.ending("s "), NONE);
        CHECK.due("two words", told.ending("s s"), NONE);
        CHECK.due("one letter", told.ending("z"), 1);
        CHECK.due("the same again", told.ending("z"), 2);
        CHECK.due("endings", told.keeper.total(0), 3);
    }

    private static void endingsAreSix() {
        Told told = new Told();
        for (int i = 0; i < 6; i++) {
            CHECK.due("ending " + i, told.ending("" + (char) ('a' + i)), i);
        }
        CHECK.due("the seventh", told.ending("g"), NONE);
        CHECK.due("nothing waits after the seventh", told.keeper.total(2), 0);
        CHECK.due("six are kept", told.keeper.total(0), 6);
    }

    private static void termRows() {
        Told told = new Told();
        CHECK.due("twelve letters, three words", told.term("abcdefghijkl mnopqrstuvwx yzabcdefghij", 0, 0, 0), 0);
        CHECK.due("words", told.keeper.about(0, 3), 3);
        CHECK.due("letters", told.keeper.about(0, 4), 36);
        String[] wrong = {"", " ", "abcdefghijklm", "a b c d", " a", "a ", "a  b", "a abcdefghijklm", "abcdefghijklm a"};
        for (String row : wrong) {
            CHECK.due("no row of a term: '" + row + "'", told.term(row, 0, 0, 0), NONE);
            CHECK.due("nothing waits after '" + row + "'", told.keeper.total(2), 0);
        }
        CHECK.due("one letter", told.term("a", 0, 0, 0), 1);
        CHECK.due("the same row again", told.term("a", 0, 0, 0), 2);
        CHECK.due("terms", told.keeper.total(1), 3);
    }

    private static void termNumbers() {
        Told told = new Told();
        for (int i = 0; i < 60; i++) {
            CHECK.due("term " + i, told.term("w" + (char) ('a' + i % 26), i % 40, i % 4, i), i);
        }
        CHECK.due("the sixty-first", told.term("x", 0, 0, 0), NONE);
        CHECK.due("nothing waits after it", told.keeper.total(2), 0);
        CHECK.due("sixty are kept", told.keeper.total(1), 60);
        CHECK.due("the last one's classes", told.keeper.about(59, 2), 59);
    }

    private static void termsWrong() {
        Told told = new Told();
        told.wait("cat");
        int[][] wrong = {{-1, 0, 0}, {40, 0, 0}, {0, -1, 0}, {0, 4, 0}, {0, 0, -1}, {0, 0, 64},
            {Integer.MIN_VALUE, 0, 0}, {Integer.MAX_VALUE, 0, 0}, {0, 0, Integer.MAX_VALUE}};
        for (int[] numbers : wrong) {
            CHECK.refused("a wrong term", WRONG, () -> told.keeper.term(numbers[0], numbers[1], numbers[2]));
            CHECK.due("what waits stays", told.keeper.total(2), 3);
        }
        CHECK.due("no term came", told.keeper.total(1), 0);
        CHECK.due("the highest numbers", told.keeper.term(39, 3, 63), 0);
        CHECK.due("letters of what had stayed", told.keeper.about(0, 4), 3);
    }

    private static void neighbours() {
        Told told = new Told();
        for (int i = 0; i < 8; i++) {
            CHECK.due("neighbour " + i, told.neighbour("n" + (char) ('a' + i), 5), i + 1);
            CHECK.due("nothing waits then", told.keeper.total(2), 0);
        }
        CHECK.due("the ninth", told.neighbour("x", 5), NONE);
        CHECK.due("nothing waits after the ninth", told.keeper.total(2), 0);
        CHECK.due("of another thing", told.neighbour("na", 39), 1);
        CHECK.due("told twice", told.neighbour("na", 39), NONE);
        CHECK.due("nothing waits after that", told.keeper.total(2), 0);
        CHECK.due("its begin alone is another", told.neighbour("n", 39), 2);
        CHECK.due("twelve letters", told.neighbour("abcdefghijkl", 39), 3);
    }

    private static void neighboursWrong() {
        Told told = new Told();
        String[] wrong = {"", " ", "a b", " a", "a ", "abcdefghijklm"};
        for (String row : wrong) {
            CHECK.due("not one word: '" + row + "'", told.neighbour(row, 0), NONE);
            CHECK.due("nothing waits after '" + row + "'", told.keeper.total(2), 0);
        }
        told.wait("sea");
        CHECK.refused("no thing below", WRONG, () -> told.keeper.neighbour(-1));
        CHECK.refused("no thing above", WRONG, () -> told.keeper.neighbour(40));
        CHECK.due("what waits stays", told.keeper.total(2), 3);
        CHECK.due("and is a neighbour now", told.keeper.neighbour(0), 1);
    }

    private static void known() {
        TermKeeper keeper = new TermKeeper();
        CHECK.due("not known at first", keeper.know(39, true), false);
        CHECK.due("known then", keeper.know(39, true), true);
        CHECK.due("another one isn't", keeper.know(38, false), false);
        CHECK.due("known till now", keeper.know(39, false), true);
        CHECK.due("no more", keeper.know(39, false), false);
        CHECK.due("the first", keeper.know(0, true), false);
        CHECK.refused("no thing below", WRONG, () -> keeper.know(-1, true));
        CHECK.refused("no thing above", WRONG, () -> keeper.know(40, true));
    }

    private static void kinds() {
        Told told = new Told();
        CHECK.refused("no term at first", MISSING, () -> told.keeper.kind(0, 0));
        told.term("cat", 0, 3, 0);
        CHECK.due("loose", told.keeper.kind(0, 1), 3);
        CHECK.due("banned then", told.keeper.about(0, 1), 1);
        CHECK.due("and was", told.keeper.kind(0, 0), 1);
        CHECK.refused("no kind below", WRONG, () -> told.keeper.kind(0, -1));
        CHECK.refused("no kind above", WRONG, () -> told.keeper.kind(0, 4));
        CHECK.refused("no term below", MISSING, () -> told.keeper.kind(-1, 0));
        CHECK.refused("no term above", MISSING, () -> told.keeper.kind(1, 0));
        CHECK.refused("neither", MISSING, () -> told.keeper.kind(1, 4));
        CHECK.due("still good", told.keeper.about(0, 1), 0);
    }

    private static void about() {
        Told told = new Told();
        told.term("red house", 17, 2, 41);
        int[] due = {17, 2, 41, 2, 8};
        for (int what = 0; what < 5; what++) {
            CHECK.due("about " + what, told.keeper.about(0, what), due[what]);
        }
        CHECK.refused("what below", MISSING, () -> told.keeper.about(0, -1));
        CHECK.refused("what above", MISSING, () -> told.keeper.about(0, 5));
        CHECK.refused("term below", MISSING, () -> told.keeper.about(-1, 0));
        CHECK.refused("term above", MISSING, () -> told.keeper.about(1, 0));
    }

    private static void totals() {
        Told told = new Told();
        told.ending("s");
        told.term("puss", 9, 1, 1);
        told.term("cat", 9, 0, 1);
        told.term("dog", 39, 0, 1);
        told.text(0, "puss puss");
        told.text(1, "puss");
        told.keeper.mendAll(0);
        told.keeper.mend(1, 0);
        told.keeper.mend(1, 0);
        told.wait("ab c");
        int[] due = {1, 3, 4, 2, 3};
        for (int what = 0; what < 5; what++) {
            CHECK.due("total " + what, told.keeper.total(what), due[what]);
        }
        CHECK.refused("what below", MISSING, () -> told.keeper.total(-1));
        CHECK.refused("what above", MISSING, () -> told.keeper.total(5));
    }
}
