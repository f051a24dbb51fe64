import java.util.NoSuchElementException;

/** Promises 6, 18 and 19: definitions, the ring, the fewest. */
public final class DefinitionsTest {
    private static final Check CHECK = new Check("DefinitionsTest");
    private static final Class<IllegalArgumentException> WRONG = IllegalArgumentException.class;
    private static final Class<NoSuchElementException> MISSING = NoSuchElementException.class;
    private static final int NONE = TermKeeper.NONE;

    public static void main(String[] args) {
        defines();
        noRing();
        shortestRing();
        leastRing();
        longRings();
        fewest();
        fewestAreLeast();
        fourteen();
        allToAll();
        CHECK.end();
    }

    private static long bits(int... things) {
        long all = 0;
        for (int thing : things) {
            all |= 1L << thing;
        }
        return all;
    }

    private static void defines() {
        TermKeeper keeper = new TermKeeper();
        long all = (1L << 40) - 1;
        CHECK.due("none at first", keeper.define(39, all), 0);
        CHECK.due("all then", keeper.define(39, 0), all);
        CHECK.due("none again", keeper.define(39, 1L << 39), 0);
        CHECK.due("its own bit", keeper.define(39, 3), 1L << 39);
        CHECK.due("another thing's", keeper.define(38, 1), 0);
        CHECK.refused("bits below 0", WRONG, () -> keeper.define(39, -1));
        CHECK.refused("the lowest number", WRONG, () -> keeper.define(39, Long.MIN_VALUE));
        CHECK.refused("bit 40", WRONG, () -> keeper.define(39, 1L << 40));
        CHECK.refused("bit 62", WRONG, () -> keeper.define(39, 1L << 62));
        CHECK.refused("thing below", WRONG, () -> keeper.define(-1, 0));
        CHECK.refused("thing above", WRONG, () -> keeper.define(40, 0));
        CHECK.due("what was told stays", keeper.define(39, 0), 3);
    }

    private static void noRing() {
        Told told = new Told();
        told.keeper.define(0, bits(1, 2));
        told.keeper.define(1, bits(2));
        told.keeper.define(2, bits(39));
        CHECK.due("none", told.keeper.ring(NONE), 0);
        CHECK.refused("its first", MISSING, () -> told.keeper.ring(0));
        CHECK.refused("below", MISSING, () -> told.keeper.ring(-2));
        told.keeper.define(39, bits(0));
        CHECK.due("closed", told.ring(), "0 2 39");
        CHECK.refused("behind it", MISSING, () -> told.keeper.ring(3));
        CHECK.refused("far below", MISSING, () -> told.keeper.ring(Integer.MIN_VALUE));
        CHECK.refused("far above", MISSING, () -> told.keeper.ring(Integer.MAX_VALUE));
        told.keeper.define(2, 0);
        CHECK.due("open again", told.ring(), "");
    }

    private static void shortestRing() {
        Told told = new Told();
        told.keeper.define(0, bits(1));
        told.keeper.define(1, bits(2));
        told.keeper.define(2, bits(0));
        told.keeper.define(30, bits(31));
        told.keeper.define(31, bits(30));
        CHECK.due("the shortest", told.ring(), "30 31");
        told.keeper.define(39, bits(39));
        CHECK.due("one by itself", told.ring(), "39");
        told.keeper.define(38, bits(38));
        CHECK.due("the lesser one", told.ring(), "38");
    }

    private static void leastRing() {
        Told told = new Told();
        told.keeper.define(5, bits(9, 8, 7));
        told.keeper.define(9, bits(6));
        told.keeper.define(8, bits(11));
        told.keeper.define(7, bits(12));
        told.keeper.define(6, bits(5));
        told.keeper.define(11, bits(5));
        CHECK.due("the least of two", told.ring(), "5 8 11");
        told.keeper.define(7, bits(12, 13));
        told.keeper.define(13, bits(5));
        CHECK.due("the least of three", told.ring(), "5 7 13");
        told.keeper.define(12, bits(5));
        CHECK.due("the least behind the second", told.ring(), "5 7 12");
        told.keeper.define(4, bits(20));
        told.keeper.define(20, bits(19));
        told.keeper.define(19, bits(4));
        CHECK.due("a lesser begin", told.ring(), "4 20 19");
    }

    private static void longRings() {
        Told told = new Told();
        StringBuilder due = new StringBuilder("0");
        for (int thing = 0; thing < 40; thing++) {
            told.keeper.define(thing, bits((thing + 39) % 40));
        }
        for (int thing = 39; thing > 0; thing--) {
            due.append(' ').append(thing);
        }
        CHECK.due("forty", told.ring(), due.toString());
        told.keeper.define(2, bits(1, 30));
        CHECK.due("a shorter way round", told.keeper.ring(NONE), 29);
        CHECK.due("from its least", told.ring().substring(0, 10), "2 30 29 28");
    }

    private static void fewest() {
        TermKeeper keeper = new TermKeeper();
        keeper.define(3, bits(4, 5));
        CHECK.due("what has no definitions", keeper.fewest(), bits(4, 5));
        keeper.define(5, bits(4));
        CHECK.due("one explains all", keeper.fewest(), bits(4));
        keeper.define(4, bits(39));
        CHECK.due("in several steps", keeper.fewest(), bits(39));
        keeper.define(39, bits(3));
        CHECK.due("a ring: the least", keeper.fewest(), bits(3));
        keeper.define(39, bits(39));
        CHECK.due("by itself alone", keeper.fewest(), bits(39));
        keeper.define(39, 0);
        keeper.define(3, 0);
        keeper.define(5, 0);
        keeper.define(4, 0);
        CHECK.due("none have any", keeper.fewest(), 0);
    }

    private static void fewestAreLeast() {
        TermKeeper keeper = new TermKeeper();
        keeper.define(10, bits(11));
        keeper.define(11, bits(10));
        keeper.define(20, bits(21));
        keeper.define(21, bits(20));
        CHECK.due("one of each ring", keeper.fewest(), bits(10, 20));
        keeper.define(10, bits(11, 20));
        CHECK.due("least as bits", keeper.fewest(), bits(10, 20));
        keeper.define(20, bits(21, 10));
        keeper.define(10, bits(11));
        keeper.define(30, bits(30));
        CHECK.due("with one that none explains", keeper.fewest(), bits(10, 20, 30));
        TermKeeper fewer = new TermKeeper();
        fewer.define(0, bits(39));
        fewer.define(1, bits(39));
        fewer.define(39, bits(0, 1));
        CHECK.due("fewer, though more as bits", fewer.fewest(), bits(39));
    }

    private static void fourteen() {
        TermKeeper keeper = new TermKeeper();
        keeper.define(0, bits(1, 2, 3, 4, 5, 6, 7, 8, 9, 10, 11, 12, 13));
        CHECK.due("fourteen", keeper.fewest(), bits(1, 2, 3, 4, 5, 6, 7, 8, 9, 10, 11, 12, 13));
        keeper.define(1, bits(39));
        CHECK.due("fifteen", keeper.fewest(), -1);
        keeper.define(1, bits(13));
        CHECK.due("fourteen again", keeper.fewest(), bits(2, 3, 4, 5, 6, 7, 8, 9, 10, 11, 12, 13));
        keeper.define(14, bits(14));
        CHECK.due("fifteen again", keeper.fewest(), -1);
    }

    private static void allToAll() {
        TermKeeper keeper = new TermKeeper();
        long all = (1L << 40) - (1L << 26);
        for (int thing = 26; thing < 40; thing++) {
            keeper.define(thing, all & ~(1L << thing));
        }
        CHECK.due("all but the last", keeper.fewest(), all & ~(1L << 39));
        CHECK.due("a ring of two", keeper.ring(NONE), 2);
        for (int thing = 26; thing < 40; thing++) {
            keeper.define(thing, 1L << thing);
        }
        CHECK.due("each by itself", keeper.fewest(), all);
        for (int thing = 26; thing < 39; thing++) {
            keeper.define(thing, 1L << thing + 1);
        }
        keeper.define(39, 0);
        CHECK.due("a long way", keeper.fewest(), 1L << 39);
    }
}
