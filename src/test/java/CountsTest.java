import java.util.NoSuchElementException;

/** Promises 13, 17 and 20: how many uses, of a text, of a term in all texts, and what two texts cross in. */
public final class CountsTest {
    private static final Check CHECK = new Check("CountsTest");
    private static final Class<NoSuchElementException> MISSING = NoSuchElementException.class;
    private static final int GOOD = 0;
    private static final int BANNED = 1;
    private static final int LOOSE = 3;

    public static void main(String[] args) {
        usesOfAText();
        allTexts();
        doubtfulCountForNone();
        countOfNoTerm();
        thingsOfBoth();
        noTermOfBoth();
        crossingsOfNone();
        crossingWithItself();
        lastThingCrosses();
        CHECK.end();
    }

    private static void usesOfAText() {
        CHECK.sentence("13: How many USES a TEXT has");
        Told told = new Told();
        told.term("cat", 0, GOOD, 0);
        CHECK.due("of an empty text", told.uses(0), 0);
        told.text(0, "dog");
        CHECK.due("none", told.uses(0), 0);
        told.text(0, "cat");
        told.text(1, "cat cat");
        CHECK.due("one", told.uses(0), 1);
        CHECK.due("two", told.uses(1), 2);
        CHECK.due("one again", told.uses(0), 1);
        told.term("cat", 1, GOOD, 0);
        CHECK.due("a doubtful one is one", told.uses(0), 1);
        told.term("dog", 1, GOOD, 0);
        told.text(0, "cat dog");
        CHECK.due("a new term's", told.uses(0), 2);
    }

    private static void allTexts() {
        CHECK.sentence("17: How many USES of a TERM all TEXTS have");
        Told told = new Told();
        told.ending("s");
        told.term("cat", 0, GOOD, 1);
        told.term("dog", 0, GOOD, 0);
        told.term("cow", 0, GOOD, 0);
        for (int text = 0; text < 8; text++) {
            CHECK.due("ahead of text " + text, told.count(0), 2 * text);
            told.text(text, "cat dog cats");
        }
        CHECK.due("of all", told.count(0), 16);
        CHECK.due("of another", told.count(1), 8);
        CHECK.due("none", told.count(2), 0);
        told.cut(7, 0);
        told.cut(0, 3);
        CHECK.due("of what is left", told.count(0), 13);
    }

    private static void doubtfulCountForNone() {
        CHECK.sentence("17: USES of a TERM (DOUBTFUL: of no TERM)");
        Told told = new Told();
        told.term("key", 1, GOOD, 0);
        told.term("key", 2, GOOD, 0);
        told.neighbour("piano", 2);
        told.text(0, "key. piano key");
        CHECK.due("of the first", told.count(0), 0);
        CHECK.due("of the second", told.count(1), 1);
        told.term("key", 2, GOOD, 0);
        CHECK.due("of the least number alone", told.count(2), 0);
    }

    private static void countOfNoTerm() {
        CHECK.sentence("17: NoSuchElementException: no such TERM");
        Told told = new Told();
        CHECK.refused("none at first", MISSING, () -> told.count(0));
        told.text(0, "key");
        told.term("key", 1, GOOD, 0);
        told.term("key", 2, GOOD, 0);
        CHECK.due("the last", told.count(1), 0);
        for (int term : new int[] {-1, 2, 60, Integer.MIN_VALUE, Integer.MAX_VALUE}) {
            CHECK.refused("term " + term, MISSING, () -> told.count(term));
        }
    }

    /** Terms 0 and 1 are of thing 0, 2 and 3 of thing 39, 4 of thing 5. */
    private static Told animals() {
        Told told = new Told();
        told.term("cat", 0, GOOD, 0);
        told.term("puss", 0, BANNED, 0);
        told.term("dog", 39, GOOD, 0);
        told.term("hound", 39, LOOSE, 0);
        told.term("cow", 5, GOOD, 0);
        return told;
    }

    private static void thingsOfBoth() {
        CHECK.sentence("20: Of two TEXTS: THINGS of USES of both");
        Told told = animals();
        told.text(0, "cat dog cow");
        told.text(1, "puss");
        CHECK.due("one thing of both", told.crossing(0, 1), 1);
        CHECK.due("the other way round", told.crossing(1, 0), 1);
        told.text(1, "puss hound");
        CHECK.due("two", told.crossing(0, 1), 1L << 39 | 1);
        told.text(1, "hound");
        CHECK.due("the other one", told.crossing(0, 1), 1L << 39);
    }

    private static void noTermOfBoth() {
        CHECK.sentence("20: no TERM of which is that of USES of both");
        Told told = animals();
        told.text(0, "cat dog hound");
        told.text(1, "puss hound");
        CHECK.due("one term of both", told.crossing(0, 1), 1);
        told.text(1, "puss cat hound");
        CHECK.due("each has one", told.crossing(0, 1), 0);
        told.text(1, "puss puss");
        CHECK.due("the same thing by another", told.crossing(0, 1), 1);
        told.ending("s");
        told.term("ox", 7, GOOD, 1);
        told.text(0, "ox");
        told.text(1, "oxs");
        CHECK.due("another form is the same term", told.crossing(0, 1), 0);
    }

    private static void crossingsOfNone() {
        CHECK.sentence("20: THINGS of USES of both (none)");
        Told told = animals();
        CHECK.due("two empty ones", told.crossing(0, 7), 0);
        told.text(0, "cat dog cow");
        CHECK.due("one empty one", told.crossing(0, 7), 0);
        CHECK.due("the other way round", told.crossing(7, 0), 0);
        told.text(7, "x y");
        CHECK.due("no uses", told.crossing(0, 7), 0);
        told.text(7, "puss");
        told.term("cat", 6, GOOD, 0);
        CHECK.due("a doubtful use is of no thing", told.crossing(0, 7), 0);
    }

    private static void crossingWithItself() {
        CHECK.sentence("20: no TERM of which is that of USES of both (a TEXT and itself)");
        Told told = animals();
        told.text(3, "cat puss dog cow");
        CHECK.due("with itself", told.crossing(3, 3), 0);
        told.text(4, "cat puss dog cow");
        CHECK.due("with one like it", told.crossing(3, 4), 0);
    }

    private static void lastThingCrosses() {
        CHECK.sentence("20: as bits (THINGS 0 to 39, of the last TERM, too)");
        Told told = new Told();
        for (int i = 0; i < 58; i++) {
            told.term("x", 1, GOOD, 0);
        }
        told.term("a", 39, GOOD, 0);
        told.term("b", 39, GOOD, 0);
        told.text(0, "a");
        told.text(1, "b");
        CHECK.due("terms 58 and 59", told.crossing(0, 1), 1L << 39);
        told.text(1, "b a");
        CHECK.due("58 of both", told.crossing(0, 1), 0);
        told.text(0, "b");
        CHECK.due("59 of both", told.crossing(0, 1), 0);
    }
}
