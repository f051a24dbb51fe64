import java.util.NoSuchElementException;

/** Promises 6 to 9 and 21: definitions, known things, kinds, what is told of terms, totals. */
public final class ThingsTest {
    private static final Check CHECK = new Check("ThingsTest");
    private static final Class<IllegalArgumentException> WRONG = IllegalArgumentException.class;
    private static final Class<NoSuchElementException> MISSING = NoSuchElementException.class;
    private static final int NONE = TermKeeper.NONE;
    private static final int MIN = Integer.MIN_VALUE;
    private static final int MAX = Integer.MAX_VALUE;
    private static final long ALL = (1L << 40) - 1;

    public static void main(String[] args) {
        definesTellsWhatWas();
        ownBit();
        defineNoThing();
        defineNoBits();
        knows();
        knowsNoThing();
        kinds();
        kindOfNoTerm();
        noSuchKind();
        aboutTerms();
        aboutNoTerm();
        aboutNothingSuch();
        totalsOfEach();
        thingsAsANumber();
        mendsEver();
        noSuchTotal();
        CHECK.end();
    }

    private static void definesTellsWhatWas() {
        CHECK.sentence("6: DEFINITIONS of a THING: bits of others: what they were");
        Told told = new Told();
        CHECK.due("none at first", told.define(0, 1L << 39), 0);
        CHECK.due("the highest bit", told.define(0, ALL), 1L << 39);
        CHECK.due("all", told.define(0, 2), ALL);
        CHECK.due("of the last thing none", told.define(39, ALL), 0);
        CHECK.due("what comes last alone", told.define(0, 0), 2);
        CHECK.due("none again", told.define(0, 0), 0);
        CHECK.due("the last thing's stay", told.define(39, 0), ALL);
    }

    private static void ownBit() {
        CHECK.sentence("6: (a THING's own bit, too, as it is told)");
        Told told = new Told();
        for (int thing : new int[] {0, 39}) {
            CHECK.due("none", told.define(thing, 1L << thing), 0);
            CHECK.due("a ring of one", told.ring(), "" + thing);
            CHECK.due("its own bit", told.define(thing, 1L << thing | 1L << 20), 1L << thing);
            CHECK.due("with another", told.define(thing, 0), 1L << thing | 1L << 20);
        }
    }

    private static void defineNoThing() {
        CHECK.sentence("6: IllegalArgumentException: no such THING");
        Told told = new Told();
        told.define(0, 2);
        told.define(39, 4);
        for (int thing : new int[] {-1, 40, 64, MIN, MAX}) {
            CHECK.refused("thing " + thing, WRONG, () -> told.define(thing, 1));
            CHECK.refused("thing " + thing + " without bits", WRONG, () -> told.define(thing, 0));
        }
        CHECK.due("the first one's stay", told.define(0, 0), 2);
        CHECK.due("the last one's stay", told.define(39, 0), 4);
    }

    private static void defineNoBits() {
        CHECK.sentence("6: IllegalArgumentException: bits are below 0 or of no THING");
        Told told = new Told();
        told.define(3, 1L << 3);
        long[] wrong = {-1, Long.MIN_VALUE, 1L << 40, 1L << 40 | 1, ALL + 1, 1L << 62, Long.MAX_VALUE, -ALL, 1L << 63 | 1};
        for (long bits : wrong) {
            CHECK.refused("bits " + bits, WRONG, () -> told.define(3, bits));
            CHECK.due("the ring stays", told.ring(), "3");
        }
        CHECK.due("what was told stays", told.define(3, ALL), 1L << 3);
        CHECK.due("all are taken", told.define(3, 0), ALL);
    }

    private static void knows() {
        CHECK.sentence("7: A THING is KNOWN, or not: whether it was");
        Told told = new Told();
        for (int thing : new int[] {0, 39}) {
            CHECK.due("not at first", told.know(thing, false), false);
            CHECK.due("nor then", told.know(thing, true), false);
            CHECK.due("known", told.know(thing, true), true);
            CHECK.due("still", told.know(thing, false), true);
            CHECK.due("no more", told.know(thing, true), false);
        }
        CHECK.due("another one isn't", told.know(38, false), false);
        CHECK.due("nor that at 32 less", told.know(7, false), false);
        CHECK.due("the first stays so", told.know(0, true), true);
    }

    private static void knowsNoThing() {
        CHECK.sentence("7: IllegalArgumentException: no such THING");
        Told told = new Told();
        for (int thing : new int[] {-1, 40, 63, 64, MIN, MAX}) {
            CHECK.refused("thing " + thing, WRONG, () -> told.know(thing, true));
            CHECK.refused("thing " + thing + " not", WRONG, () -> told.know(thing, false));
        }
        for (int thing = 0; thing < 40; thing++) {
            CHECK.due("none is known: " + thing, told.know(thing, false), false);
        }
    }

    private static void kinds() {
        CHECK.sentence("8: KIND of a TERM is changed: what it was");
        Told told = new Told();
        told.term("cat", 0, 3, 0);
        told.term("dog", 0, 2, 0);
        int was = 3;
        for (int kind : new int[] {0, 1, 2, 3, 3, 0}) {
            CHECK.due("before " + kind, told.kind(0, kind), was);
            CHECK.due("now", told.about(0, 1), kind);
            was = kind;
        }
        CHECK.due("the other one's stays", told.kind(1, 0), 2);
    }

    private static void kindOfNoTerm() {
        CHECK.sentence("8: NoSuchElementException: no such TERM");
        Told told = new Told();
        CHECK.refused("none at first", MISSING, () -> told.kind(0, 0));
        told.term("cat", 0, 3, 0);
        told.term("dog", 0, 2, 0);
        for (int term : new int[] {-1, 2, 60, MIN, MAX}) {
            CHECK.refused("term " + term, MISSING, () -> told.kind(term, 0));
            CHECK.refused("no such kind besides: " + term, MISSING, () -> told.kind(term, 4));
        }
        CHECK.due("the last one's", told.kind(1, 1), 2);
        CHECK.due("the first one's", told.kind(0, 1), 3);
    }

    private static void noSuchKind() {
        CHECK.sentence("8: IllegalArgumentException: no such KIND");
        Told told = new Told();
        told.term("cat", 0, 2, 0);
        for (int kind : new int[] {-1, 4, MIN, MAX}) {
            CHECK.refused("kind " + kind, WRONG, () -> told.kind(0, kind));
            CHECK.due("what it was stays", told.about(0, 1), 2);
        }
    }

    private static void aboutTerms() {
        CHECK.sentence("9: 0 its THING, 1 KIND, 2 CLASSES, 3 how many WORDS, 4 how many LETTERS in all");
        Told told = new Told();
        told.term("red house", 17, 2, 41);
        told.term("a", 0, 0, 0);
        told.term("abcdefghijkl abcdefghijkl abcdefghijkl", 39, 3, 63);
        int[][] due = {{17, 2, 41, 2, 8}, {0, 0, 0, 1, 1}, {39, 3, 63, 3, 36}};
        for (int term = 0; term < 3; term++) {
            for (int what = 0; what < 5; what++) {
                CHECK.due("about " + term + " " + what, told.about(term, what), due[term][what]);
            }
        }
    }

    private static void aboutNoTerm() {
        CHECK.sentence("9: NoSuchElementException: no such TERM");
        Told told = new Told();
        told.term("cat", 0, 0, 0);
        for (int term : new int[] {-1, 1, 60, MIN, MAX}) {
            for (int what : new int[] {0, 4, 5}) {
                CHECK.refused("term " + term + ", what " + what, MISSING, () -> told.about(term, what));
            }
        }
    }

    private static void aboutNothingSuch() {
        CHECK.sentence("9: NoSuchElementException: no such what");
        Told told = new Told();
        told.term("cat", 0, 0, 0);
        for (int what : new int[] {-1, 5, MIN, MAX}) {
            CHECK.refused("what " + what, MISSING, () -> told.about(0, what));
        }
        CHECK.due("the last what", told.about(0, 4), 3);
    }

    private static void totalsOfEach() {
        CHECK.sentence("21: 0 ENDINGS, 1 TERMS, 2 bytes that wait, 3 THINGS of which some TERM is, 4 MENDS ever");
        Told told = new Told();
        told.ending("s");
        told.term("puss", 9, 1, 1);
        told.term("cat", 9, 0, 1);
        told.term("dog", 39, 0, 1);
        told.text(0, "puss puss");
        told.mendAll(0);
        told.wait("ab c");
        CHECK.due("totals", told.totals(), "1 3 4 2 2");
    }

    private static void thingsAsANumber() {
        CHECK.sentence("21: 3 THINGS of which some TERM is, as a number");
        Told told = new Told();
        told.define(5, 1L << 6);
        told.know(7, true);
        told.neighbour("sea", 8);
        CHECK.due("of no term", told.total(3), 0);
        for (int thing = 39; thing >= 0; thing--) {
            told.term("a", thing, 0, 0);
            CHECK.due("with thing " + thing, told.total(3), 40 - thing);
        }
        told.term("b", 39, 0, 0);
        CHECK.due("a second term of one", told.total(3), 40);
    }

    private static void mendsEver() {
        CHECK.sentence("21: 4 MENDS ever");
        Told told = new Told();
        told.term("cat", 0, 0, 0);
        told.term("puss", 0, 1, 0);
        told.text(0, "puss puss puss cat");
        CHECK.due("one", told.mend(0, 1), true);
        CHECK.due("one ever", told.total(4), 1);
        CHECK.due("none of a good one", told.mend(0, 1), false);
        CHECK.due("still one", told.total(4), 1);
        CHECK.due("all", told.mendAll(0), 2);
        CHECK.due("three ever", told.total(4), 3);
        CHECK.due("none more", told.mendAll(0), 0);
        told.cut(0, 0);
        CHECK.due("ever, though the text is gone", told.total(4), 3);
        CHECK.due("no bytes", told.byteAt(0, NONE), 0);
    }

    private static void noSuchTotal() {
        CHECK.sentence("21: NoSuchElementException: another what");
        Told told = new Told();
        for (int what : new int[] {-1, 5, MIN, MAX}) {
            CHECK.refused("what " + what, MISSING, () -> told.total(what));
        }
    }
}
