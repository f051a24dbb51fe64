import java.util.NoSuchElementException;

/** Promises 18 and 19: the ring, the fewest. */
public final class DefinitionsTest {
    private static final Check CHECK = new Check("DefinitionsTest");
    private static final Class<NoSuchElementException> MISSING = NoSuchElementException.class;
    private static final int NONE = TermKeeper.NONE;

    public static void main(String[] args) {
        noRing();
        noneSuch();
        ringsOfOne();
        shortestRing();
        leastRing();
        beginsWithItsLeast();
        ringOfForty();
        fewestOfNone();
        explainedAgainAndAgain();
        allOfWhose();
        atLeastOneDefinition();
        explainedByItself();
        fewest();
        leastAsBits();
        knownDoesNotMatter();
        fourteen();
        moreThanFourteen();
        dearestFewest();
        CHECK.end();
    }

    private static long bits(int... things) {
        long all = 0;
        for (int thing : things) {
            all |= 1L << thing;
        }
        return all;
    }

    private static void noRing() {
        CHECK.sentence("18: i NONE: how many it has (0: there is none)");
        Told told = new Told();
        CHECK.due("without definitions", told.ring(NONE), 0);
        told.define(0, bits(1, 2));
        told.define(1, bits(2));
        told.define(2, bits(39));
        CHECK.due("none", told.ring(NONE), 0);
        CHECK.refused("its first", MISSING, () -> told.ring(0));
        told.define(39, bits(0));
        CHECK.due("closed", told.ring(), "0 2 39");
        told.define(2, 0);
        CHECK.due("open again", told.ring(NONE), 0);
        CHECK.refused("its first then", MISSING, () -> told.ring(0));
    }

    private static void noneSuch() {
        CHECK.sentence("18: The i-th THING of THE RING. NoSuchElementException: there is none such");
        Told told = new Told();
        for (int i : new int[] {-2, 0, 1, Integer.MIN_VALUE, Integer.MAX_VALUE}) {
            CHECK.refused("of no ring " + i, MISSING, () -> told.ring(i));
        }
        told.define(7, bits(8));
        told.define(8, bits(9));
        told.define(9, bits(7));
        CHECK.due("how many", told.ring(-1), 3);
        CHECK.due("the first", told.ring(0), 7);
        CHECK.due("the last", told.ring(2), 9);
        for (int i : new int[] {-2, 3, 40, Integer.MIN_VALUE, Integer.MAX_VALUE}) {
            CHECK.refused("thing " + i, MISSING, () -> told.ring(i));
        }
        told.define(30, bits(30));
        CHECK.refused("of a shorter one", MISSING, () -> told.ring(1));
        CHECK.due("its first", told.ring(0), 30);
    }

    private static void ringsOfOne() {
        CHECK.sentence("==== 4: rows of different THINGS (one), the last goes to the first");
        Told told = new Told();
        told.define(1, bits(2));
        told.define(2, bits(1));
        told.define(39, bits(39));
        CHECK.due("one by itself", told.ring(), "39");
        told.define(38, bits(38, 1));
        CHECK.due("the lesser one", told.ring(), "38");
        told.define(0, bits(0));
        CHECK.due("the least", told.ring(), "0");
    }

    private static void shortestRing() {
        CHECK.sentence("==== 4: THE RING: .. the shortest");
        Told told = new Told();
        told.define(0, bits(1));
        told.define(1, bits(2));
        told.define(2, bits(3));
        told.define(3, bits(0));
        CHECK.due("four", told.ring(), "0 1 2 3");
        told.define(20, bits(21));
        told.define(21, bits(22));
        told.define(22, bits(20));
        CHECK.due("three, though of more", told.ring(), "20 21 22");
        told.define(38, bits(39));
        told.define(39, bits(38));
        CHECK.due("two, though of more", told.ring(), "38 39");
        told.define(38, 0);
        told.define(1, bits(2, 3));
        CHECK.due("three again, the least of two", told.ring(), "0 1 3");
    }

    private static void leastRing() {
        CHECK.sentence("==== 4: of like ones that which is least as a row of numbers");
        Told told = new Told();
        told.define(5, bits(9, 8, 7));
        told.define(9, bits(6));
        told.define(8, bits(11));
        told.define(7, bits(12));
        told.define(6, bits(5));
        told.define(11, bits(5));
        CHECK.due("the least second", told.ring(), "5 8 11");
        told.define(7, bits(12, 13));
        told.define(13, bits(5));
        CHECK.due("a lesser second", told.ring(), "5 7 13");
        told.define(12, bits(5));
        CHECK.due("a lesser third", told.ring(), "5 7 12");
        told.define(4, bits(20));
        told.define(20, bits(19));
        told.define(19, bits(4));
        CHECK.due("a lesser first", told.ring(), "4 20 19");
    }

    private static void beginsWithItsLeast() {
        CHECK.sentence("==== 4: (it begins with its least THING)");
        Told told = new Told();
        told.define(39, bits(7));
        told.define(7, bits(20));
        told.define(20, bits(3));
        told.define(3, bits(39));
        CHECK.due("from its least", told.ring(), "3 39 7 20");
        told.define(1, bits(3, 39, 7));
        told.define(2, bits(1));
        CHECK.due("a lesser one that only leads to it is none of it", told.ring(), "3 39 7 20");
    }

    private static void ringOfForty() {
        CHECK.sentence("18: how many it has (40 at most)");
        Told told = new Told();
        for (int thing = 0; thing < 40; thing++) {
            told.define(thing, bits((thing + 39) % 40));
        }
        CHECK.due("forty", told.ring(NONE), 40);
        CHECK.due("the first", told.ring(0), 0);
        for (int i = 1; i < 40; i++) {
            CHECK.due("thing " + i, told.ring(i), 40 - i);
        }
        CHECK.refused("behind the last", MISSING, () -> told.ring(40));
        told.define(2, bits(1, 30));
        CHECK.due("a shorter way round", told.ring(NONE), 29);
        CHECK.due("from its least", told.ring(0) + " " + told.ring(1) + " " + told.ring(28), "2 30 3");
        told.define(2, 0);
        CHECK.due("open", told.ring(NONE), 0);
    }

    private static void fewestOfNone() {
        CHECK.sentence("==== 4: a set of THINGS of those that have DEFINITIONS, or are in some (none)");
        Told told = new Told();
        told.term("cat", 3, 0, 0);
        CHECK.due("none", told.fewest(), 0);
        told.define(3, bits(4));
        CHECK.due("one explains the other", told.fewest(), bits(4));
        told.define(3, 0);
        CHECK.due("none again", told.fewest(), 0);
    }

    private static void explainedAgainAndAgain() {
        CHECK.sentence("==== 4: again and again one all of whose DEFINITIONS are in it or were explained");
        Told told = new Told();
        told.define(3, bits(4, 5));
        CHECK.due("both", told.fewest(), bits(4, 5));
        told.define(5, bits(4));
        CHECK.due("in two steps", told.fewest(), bits(4));
        told.define(4, bits(39));
        CHECK.due("in three", told.fewest(), bits(39));
        Told up = new Told();
        Told down = new Told();
        for (int i = 0; i < 13; i++) {
            up.define(i, bits(i + 1));
            down.define(39 - i, bits(38 - i));
        }
        CHECK.due("thirteen steps, each to the next", up.fewest(), bits(13));
        CHECK.due("thirteen steps the other way", down.fewest(), bits(26));
    }

    private static void allOfWhose() {
        CHECK.sentence("==== 4: all of whose DEFINITIONS");
        Told told = new Told();
        told.define(0, bits(1, 2));
        told.define(1, bits(0));
        CHECK.due("one of two isn't enough", told.fewest(), bits(0, 2));
        told.define(2, bits(0));
        CHECK.due("from one", told.fewest(), bits(0));
    }

    private static void atLeastOneDefinition() {
        CHECK.sentence("==== 4: (at least one)");
        Told told = new Told();
        told.define(0, bits(1, 2, 39));
        CHECK.due("those without any are in it", told.fewest(), bits(1, 2, 39));
    }

    private static void explainedByItself() {
        CHECK.sentence("==== 4: all of whose DEFINITIONS (its own bit, too) are in it or were explained");
        Told told = new Told();
        told.define(39, bits(39));
        CHECK.due("by itself alone", told.fewest(), bits(39));
        told.define(0, bits(39));
        CHECK.due("it explains another", told.fewest(), bits(39));
        told.define(39, bits(39, 0));
        CHECK.due("the other one isn't enough", told.fewest(), bits(39));
        told.define(0, bits(0, 39));
        CHECK.due("both", told.fewest(), bits(0, 39));
    }

    private static void fewest() {
        CHECK.sentence("==== 4: The one of fewest");
        Told told = new Told();
        told.define(0, bits(39));
        told.define(1, bits(39));
        told.define(39, bits(0, 1));
        CHECK.due("one, though more as bits", told.fewest(), bits(39));
        told.define(2, bits(1, 39));
        told.define(3, bits(2));
        CHECK.due("with more that it explains", told.fewest(), bits(39));
    }

    private static void leastAsBits() {
        CHECK.sentence("==== 4: of like ones the least as bits");
        Told told = new Told();
        told.define(39, bits(3));
        told.define(3, bits(39));
        CHECK.due("of a ring of two", told.fewest(), bits(3));
        told.define(10, bits(11));
        told.define(11, bits(10));
        told.define(20, bits(21));
        told.define(21, bits(20));
        CHECK.due("one of each ring", told.fewest(), bits(3, 10, 20));
        told.define(10, bits(11, 20));
        CHECK.due("still", told.fewest(), bits(3, 10, 20));
        Told other = new Told();
        for (int thing = 0; thing < 4; thing++) {
            other.define(thing, bits(0, 1, 2, 3) & ~bits(thing));
        }
        CHECK.due("three of four", other.fewest(), bits(0, 1, 2));
        Told third = new Told();
        third.define(0, bits(5));
        third.define(1, bits(5));
        third.define(5, bits(0, 2));
        third.define(2, bits(1));
        CHECK.due("a high one alone", third.fewest(), bits(5));
    }

    private static void knownDoesNotMatter() {
        CHECK.sentence("==== 4: those that have DEFINITIONS, or are in some (KNOWN or not, with TERMS or not)");
        Told told = new Told();
        told.define(3, bits(4, 5));
        told.know(4, true);
        told.term("cat", 5, 0, 0);
        CHECK.due("both", told.fewest(), bits(4, 5));
    }

    private static void fourteen() {
        CHECK.sentence("19: FEWEST as bits (of at most 14 such THINGS)");
        Told told = new Told();
        told.define(0, bits(1, 2, 3, 4, 5, 6, 7, 8, 9, 10, 11, 12, 13));
        CHECK.due("fourteen", told.fewest(), bits(1, 2, 3, 4, 5, 6, 7, 8, 9, 10, 11, 12, 13));
        told.define(1, bits(13));
        CHECK.due("fourteen still", told.fewest(), bits(2, 3, 4, 5, 6, 7, 8, 9, 10, 11, 12, 13));
        told.define(0, 0);
        CHECK.due("two", told.fewest(), bits(13));
        Told high = new Told();
        for (int thing = 26; thing < 40; thing += 2) {
            high.define(thing, bits(thing + 1));
        }
        CHECK.due("the last fourteen", high.fewest(), bits(27, 29, 31, 33, 35, 37, 39));
    }

    private static void moreThanFourteen() {
        CHECK.sentence("19: -1: there are more than 14 such THINGS");
        Told told = new Told();
        told.define(0, bits(1, 2, 3, 4, 5, 6, 7, 8, 9, 10, 11, 12, 13));
        told.define(1, bits(39));
        CHECK.due("fifteen by one in some", told.fewest(), -1);
        told.define(1, 0);
        told.define(14, bits(1));
        CHECK.due("fifteen by one that has some", told.fewest(), -1);
        told.define(14, bits(14));
        CHECK.due("fifteen by one of itself", told.fewest(), -1);
        told.define(14, 0);
        CHECK.due("fourteen again", told.fewest(), bits(1, 2, 3, 4, 5, 6, 7, 8, 9, 10, 11, 12, 13));
        told.define(20, (1L << 40) - 1);
        CHECK.due("forty", told.fewest(), -1);
        CHECK.due("the definitions stay", told.define(20, 0), (1L << 40) - 1);
    }

    private static void dearestFewest() {
        CHECK.sentence("19: FEWEST as bits (where nearly all are in it)");
        Told told = new Told();
        long all = (1L << 40) - (1L << 26);
        for (int thing = 26; thing < 40; thing++) {
            told.define(thing, all & ~(1L << thing));
        }
        CHECK.due("all but the last", told.fewest(), all & ~(1L << 39));
        CHECK.due("a ring of two", told.ring(), "26 27");
        for (int thing = 26; thing < 40; thing++) {
            told.define(thing, 1L << thing);
        }
        CHECK.due("each by itself", told.fewest(), all);
    }
}
