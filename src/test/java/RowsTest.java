import java.util.NoSuchElementException;

/** Promises 1 to 5: a new object, the row that waits, and what becomes of it; a method for each sentence. */
public final class RowsTest {
    private static final Check CHECK = new Check("RowsTest");
    private static final Class<IllegalArgumentException> WRONG = IllegalArgumentException.class;
    private static final Class<NoSuchElementException> MISSING = NoSuchElementException.class;
    private static final int NONE = TermKeeper.NONE;
    private static final int MIN = Integer.MIN_VALUE;
    private static final int MAX = Integer.MAX_VALUE;
    private static final String TWELVE = "abcdefghijkl";
    private static final String THIRTEEN = "abcdefghijklm";
    private static final String[] BLANKS_AMISS = {" ", "  ", " a", "a ", " a ", "a  b", "a b ", " a b"};

    public static void main(String[] args) {
        noTermsAtFirst();
        textsEmptyAtFirst();
        objectsApart();
        lettersAndTheBlank();
        fortyBytes();
        otherNumbers();
        endingRows();
        noSuchEnding();
        nothingWaitsBehindAnEnding();
        sixEndings();
        termRows();
        noSuchTerm();
        sixtyTerms();
        lastTermNumbers();
        wrongTermNumbers();
        wrongTermNumbersFirst();
        neighbourWords();
        notOneWord();
        eightNeighbours();
        thisOneIsOne();
        wrongNeighbourThing();
        CHECK.end();
    }

    private static void noTermsAtFirst() {
        CHECK.sentence("1: No TERMS");
        Told told = new Told();
        CHECK.due("totals", told.totals(), "0 0 0 0 0");
        for (int what = 0; what < 5; what++) {
            int asked = what;
            CHECK.refused("about " + what, MISSING, () -> told.about(0, asked));
        }
        CHECK.refused("kind", MISSING, () -> told.kind(0, 0));
        CHECK.refused("count", MISSING, () -> told.count(0));
        CHECK.due("ring", told.ring(NONE), 0);
        CHECK.due("fewest", told.fewest(), 0);
        for (int thing = 0; thing < 40; thing++) {
            CHECK.due("definitions of thing " + thing, told.define(thing, 0), 0);
            CHECK.due("thing " + thing + " known", told.know(thing, false), false);
        }
    }

    private static void textsEmptyAtFirst() {
        CHECK.sentence("1: all TEXTS empty");
        Told told = new Told();
        for (int text = 0; text < 8; text++) {
            int asked = text;
            CHECK.due("bytes of text " + text, told.byteAt(text, NONE), 0);
            CHECK.refused("its first byte", MISSING, () -> told.byteAt(asked, 0));
            CHECK.due("one byte of it alone", told.cut(text, 1), NONE);
            CHECK.due("its uses", told.uses(text), 0);
            CHECK.refused("its first use", MISSING, () -> told.use(asked, 0, 0));
            CHECK.due("its mends", told.mendAll(text), 0);
            CHECK.due("its crossing", told.crossing(text, 7 - text), 0);
        }
    }

    private static void objectsApart() {
        CHECK.sentence("1: No TERMS; all TEXTS empty (of a second object, too)");
        Told first = new Told();
        first.ending("s");
        first.term("cat", 0, 0, 1);
        first.neighbour("dog", 0);
        first.define(0, 1);
        first.know(0, true);
        first.text(0, "cats");
        first.wait("ab");
        Told second = new Told();
        CHECK.due("totals", second.totals(), "0 0 0 0 0");
        CHECK.due("bytes", second.byteAt(0, NONE), 0);
        CHECK.due("ring", second.ring(NONE), 0);
        CHECK.due("known", second.know(0, false), false);
        CHECK.due("the same neighbour", second.neighbour("dog", 0), 1);
        CHECK.due("the first one's stay", first.totals(), "1 1 2 1 0");
    }

    private static void lettersAndTheBlank() {
        CHECK.sentence("2: A LETTER (0 to 25) comes behind the row that waits; 26: a blank");
        Told told = new Told();
        int[] row = {0, 1, 2, 3, 4, 5, 6, 7, 8, 9, 10, 11, 26, 12, 13, 14, 15, 16, 17, 18, 19, 20, 21, 22, 23, 26, 24, 25};
        for (int i = 0; i < row.length; i++) {
            CHECK.due("letter " + row[i], told.letter(row[i]), i + 1);
            CHECK.due("bytes that wait", told.total(2), i + 1);
        }
        CHECK.due("as a term", told.term(0, 0, 0), 0);
        CHECK.due("its words", told.about(0, 3), 3);
        CHECK.due("its letters", told.about(0, 4), 26);
        CHECK.due("found", told.uses(0, "abcdefghijkl mnopqrstuvwx yz"), "0-28:0/-1!0");
        CHECK.due("a blank as the first", told.letter(26), 1);
    }

    private static void fortyBytes() {
        CHECK.sentence("2: how many bytes it has then (40 at most). NONE, and nothing comes: there are 40");
        Told told = new Told();
        for (int i = 1; i <= 39; i++) {
            CHECK.due("byte " + i, told.letter(i % 27), i);
        }
        CHECK.due("the fortieth", told.letter(26), 40);
        for (int v : new int[] {0, 25, 26, -1, 27}) {
            CHECK.due("one more: " + v, told.letter(v), NONE);
            CHECK.due("forty wait", told.total(2), 40);
        }
        CHECK.due("no term has forty", told.term(0, 0, 0), NONE);
        CHECK.due("none wait", told.total(2), 0);
        CHECK.due("the first again", told.letter(25), 1);
        CHECK.due("that one alone", told.term(0, 0, 0), 0);
        CHECK.due("found", told.uses(0, "z"), "0-1:0/-1!0");
    }

    private static void otherNumbers() {
        CHECK.sentence("2: NONE, and nothing comes: another number");
        Told told = new Told();
        CHECK.due("below, when none waits", told.letter(-1), NONE);
        CHECK.due("above, when none waits", told.letter(27), NONE);
        CHECK.due("none came", told.total(2), 0);
        told.wait("ab");
        for (int v : new int[] {-1, 27, 28, -2, 32, 65, 97, 122, 255, 256, 282, -256, 1 << 16, MIN, MAX}) {
            CHECK.due("number " + v, told.letter(v), NONE);
            CHECK.due("two wait", told.total(2), 2);
        }
        told.wait("c");
        CHECK.due("as a term", told.term(0, 0, 0), 0);
        CHECK.due("its letters", told.about(0, 4), 3);
        CHECK.due("found", told.uses(0, "abc"), "0-3:0/-1!0");
    }

    private static void endingRows() {
        CHECK.sentence("3: ENDINGS, numbered from 0 on: rows of 1 to 4 LETTERS");
        Told told = new Told();
        told.term("cat", 0, 0, 63);
        CHECK.due("one letter", told.ending("z"), 0);
        CHECK.due("four letters", told.ending("ness"), 1);
        CHECK.due("two", told.ending("es"), 2);
        CHECK.due("three", told.ending("ing"), 3);
        CHECK.due("the same again", told.ending("z"), 4);
        CHECK.due("totals", told.totals(), "5 1 0 1 0");
        CHECK.due("found", told.uses(0, "catz catness cates cating catn catnes"),
                "0-4:0/0!0 5-12:0/1!0 13-18:0/2!0 19-25:0/3!0");
    }

    private static void noSuchEnding() {
        CHECK.sentence("3: NONE: it is no such row");
        Told told = new Told();
        told.ending("s");
        for (String row : new String[] {"", "nesss", TWELVE, THIRTEEN, " ", "  ", " s", "s ", "s s", "a bc", "nes "}) {
            CHECK.due("'" + row + "'", told.ending(row), NONE);
            CHECK.due("totals", told.totals(), "1 0 0 0 0");
        }
        CHECK.due("the next one's number", told.ending("ed"), 1);
        told.term("cat", 0, 0, 63);
        CHECK.due("none of them is one", told.uses(0, "catnesss catnes cats cated"), "16-20:0/0!0 21-26:0/1!0");
    }

    private static void nothingWaitsBehindAnEnding() {
        CHECK.sentence("3: nothing waits then, whatever is told");
        Told told = new Told();
        CHECK.due("one that is taken", told.ending("s"), 0);
        CHECK.due("nothing waits", told.total(2), 0);
        CHECK.due("so nothing is told", told.ending(), NONE);
        CHECK.due("one too long", told.ending("abcde"), NONE);
        CHECK.due("nothing waits then", told.total(2), 0);
        CHECK.due("forty bytes", told.ending("a".repeat(40)), NONE);
        CHECK.due("nothing waits behind forty", told.total(2), 0);
        for (int i = 1; i < 6; i++) {
            told.ending("" + (char) ('a' + i));
        }
        CHECK.due("one too many", told.ending("x"), NONE);
        CHECK.due("nothing waits behind that", told.total(2), 0);
        CHECK.due("too many and too long", told.ending("abcde"), NONE);
        CHECK.due("nothing waits even so", told.total(2), 0);
        CHECK.due("a letter is the first again", told.letter(0), 1);
    }

    private static void sixEndings() {
        CHECK.sentence("3: NONE: there are 6");
        Told told = new Told();
        told.term("cat", 0, 0, 63);
        for (int i = 0; i < 6; i++) {
            CHECK.due("ending " + i, told.ending("" + (char) ('u' + i)), i);
            CHECK.due("endings", told.total(0), i + 1);
        }
        CHECK.due("the seventh", told.ending("s"), NONE);
        CHECK.due("one that is one", told.ending("u"), NONE);
        CHECK.due("six stay", told.totals(), "6 1 0 1 0");
        CHECK.due("the seventh is none", told.uses(0, "cats catu catz"), "5-9:0/0!0 10-14:0/5!0");
    }

    private static void termRows() {
        CHECK.sentence("4: a row of 1 to 3 WORDS (each of 1 to 12 LETTERS)");
        Told told = new Told();
        String[] rows = {"a", TWELVE, "a b", "a b c", TWELVE + " b c", "a " + TWELVE + " c", "a b " + TWELVE,
            TWELVE + " " + TWELVE + " " + TWELVE, "a"};
        int[] words = {1, 1, 2, 3, 3, 3, 3, 3, 1};
        int[] letters = {1, 12, 2, 3, 14, 14, 14, 36, 1};
        for (int i = 0; i < rows.length; i++) {
            CHECK.due("'" + rows[i] + "'", told.term(rows[i], i, 0, 0), i);
            CHECK.due("its words", told.about(i, 3), words[i]);
            CHECK.due("its letters", told.about(i, 4), letters[i]);
            CHECK.due("totals", told.totals(), "0 " + (i + 1) + " 0 " + (i + 1) + " 0");
        }
    }

    private static void noSuchTerm() {
        CHECK.sentence("4: (nothing waits then). NONE: it is no such row");
        String[] rows = {"", THIRTEEN, "a " + THIRTEEN, THIRTEEN + " a", "a b " + THIRTEEN, "a " + THIRTEEN + " b",
            "a b c d", "a b c ", " a b c", "a  b c", "a".repeat(40), TWELVE + " " + TWELVE + " " + TWELVE + " a"};
        Told told = new Told();
        told.term("cat", 7, 0, 0);
        for (String row : rows) {
            CHECK.due("'" + row + "'", told.term(row, 5, 0, 0), NONE);
            CHECK.due("totals", told.totals(), "0 1 0 1 0");
        }
        Told other = new Told();
        for (String row : BLANKS_AMISS) {
            CHECK.due("'" + row + "'", other.term(row, 5, 0, 0), NONE);
            CHECK.due("totals", other.totals(), "0 0 0 0 0");
        }
        CHECK.due("the next one's number", other.term("a", 5, 0, 0), 0);
        CHECK.refused("none behind it", MISSING, () -> other.about(1, 0));
    }

    private static void sixtyTerms() {
        CHECK.sentence("4: TERMS, numbered from 0 on, at most 60. NONE: there are 60");
        Told told = new Told();
        for (int i = 0; i < 60; i++) {
            CHECK.due("term " + i, told.term("" + (char) ('a' + i % 20), i % 40, i % 4, i), i);
            CHECK.due("terms", told.total(1), i + 1);
        }
        CHECK.due("the sixty-first", told.term("x", 0, 0, 0), NONE);
        CHECK.due("one that is one", told.term("a", 0, 0, 0), NONE);
        CHECK.due("no row besides", told.term("", 0, 0, 0), NONE);
        CHECK.due("sixty stay, nothing waits", told.totals(), "0 60 0 40 0");
        CHECK.due("the last one's thing", told.about(59, 0), 19);
        CHECK.due("the last one's classes", told.about(59, 2), 59);
        CHECK.due("the first one's", told.about(0, 2), 0);
        CHECK.refused("no sixty-first", MISSING, () -> told.about(60, 0));
        CHECK.due("the sixty-first is none", told.uses(0, "x"), "");
        CHECK.due("kind of the last", told.kind(59, 0), 3);
        CHECK.due("count of the last", told.count(59), 0);
    }

    private static void lastTermNumbers() {
        CHECK.sentence("4: THINGS 0 to 39, KIND 0 to 3, CLASSES 0 to 63");
        Told told = new Told();
        int[][] taken = {{0, 0, 0}, {39, 3, 63}, {39, 0, 0}, {0, 3, 0}, {0, 0, 63}, {38, 2, 62}, {1, 1, 1}};
        for (int i = 0; i < taken.length; i++) {
            CHECK.due("term " + i, told.term("cat", taken[i][0], taken[i][1], taken[i][2]), i);
            for (int what = 0; what < 3; what++) {
                CHECK.due("about " + what, told.about(i, what), taken[i][what]);
            }
        }
    }

    private static void wrongTermNumbers() {
        CHECK.sentence("4: IllegalArgumentException: no such THING, KIND, CLASSES are not 0 to 63 (what waits stays)");
        Told told = new Told();
        told.wait("cat");
        int[][] wrong = {{-1, 0, 0}, {40, 0, 0}, {0, -1, 0}, {0, 4, 0}, {0, 0, -1}, {0, 0, 64}, {40, 4, 64},
            {MIN, 0, 0}, {MAX, 0, 0}, {0, MIN, 0}, {0, MAX, 0}, {0, 0, MIN}, {0, 0, MAX}, {64, 0, 0}, {0, 0, 128}};
        for (int[] numbers : wrong) {
            CHECK.refused(numbers[0] + " " + numbers[1] + " " + numbers[2], WRONG,
                    () -> told.term(numbers[0], numbers[1], numbers[2]));
            CHECK.due("totals", told.totals(), "0 0 3 0 0");
        }
        CHECK.due("one letter more", told.letter(18), 4);
        CHECK.due("what has stayed", told.term(1, 0, 0), 0);
        CHECK.due("found", told.uses(0, "cats cat"), "0-4:0/-1!0");
    }

    private static void wrongTermNumbersFirst() {
        CHECK.sentence("4: IllegalArgumentException .. (what waits stays), where NONE would be the answer, too");
        Told told = new Told();
        told.wait("a  b");
        CHECK.refused("no row", WRONG, () -> told.term(40, 0, 0));
        CHECK.due("what waits stays", told.total(2), 4);
        told.ending();
        CHECK.refused("nothing waits", WRONG, () -> told.term(0, 4, 0));
        for (int i = 0; i < 60; i++) {
            told.term("a", 0, 0, 0);
        }
        told.wait("b");
        CHECK.refused("sixty", WRONG, () -> told.term(0, 0, 64));
        CHECK.due("what waits still stays", told.totals(), "0 60 1 1 0");
    }

    private static void neighbourWords() {
        CHECK.sentence("5: What waits is a NEIGHBOUR of a THING (nothing waits then): how many it has");
        Told told = new Told();
        CHECK.due("one letter", told.neighbour("a", 0), 1);
        CHECK.due("nothing waits", told.total(2), 0);
        CHECK.due("twelve letters", told.neighbour(TWELVE, 0), 2);
        CHECK.due("the first thing's stay two", told.neighbour("b", 39), 1);
        CHECK.due("nothing waits then", told.total(2), 0);
        told.term("key", 0, 0, 0);
        told.term("key", 39, 0, 0);
        CHECK.due("of the first thing", told.uses(0, "a key"), "2-5:0/-1!0");
        CHECK.due("of twelve letters", told.uses(0, "key " + TWELVE), "0-3:0/-1!0");
        CHECK.due("of the last thing", told.uses(0, "b key"), "2-5:1/-1!0");
        CHECK.due("no ending, no term came", told.totals(), "0 2 0 2 0");
    }

    private static void notOneWord() {
        CHECK.sentence("5: (nothing waits then). NONE: it is not one WORD");
        Told told = new Told();
        for (String row : BLANKS_AMISS) {
            CHECK.due("'" + row + "'", told.neighbour(row, 0), NONE);
            CHECK.due("nothing waits", told.total(2), 0);
        }
        for (String row : new String[] {"", "a b", "a b c", THIRTEEN, "a".repeat(40)}) {
            CHECK.due("'" + row + "'", told.neighbour(row, 0), NONE);
            CHECK.due("nothing waits then", told.total(2), 0);
        }
        CHECK.due("the first", told.neighbour("x", 0), 1);
        told.term("key", 0, 0, 0);
        told.term("key", 1, 0, 0);
        CHECK.due("none of them is one", told.uses(0, "a b c key " + THIRTEEN), "6-9:-1/-1!1");
    }

    private static void eightNeighbours() {
        CHECK.sentence("5: NONE: it has 8");
        Told told = new Told();
        for (int i = 0; i < 8; i++) {
            CHECK.due("neighbour " + i, told.neighbour("" + (char) ('a' + i), 5), i + 1);
        }
        CHECK.due("the ninth", told.neighbour("x", 5), NONE);
        CHECK.due("nothing waits", told.total(2), 0);
        CHECK.due("one that is one", told.neighbour("a", 5), NONE);
        CHECK.due("not one word", told.neighbour("a b", 5), NONE);
        CHECK.due("of another thing", told.neighbour("x", 6), 1);
        told.term("key", 5, 0, 0);
        told.term("key", 6, 0, 0);
        CHECK.due("the eighth is one", told.uses(0, "h key"), "2-5:0/-1!0");
        CHECK.due("the first is one", told.uses(0, "a key"), "2-5:0/-1!0");
        CHECK.due("the ninth is none", told.uses(0, "x key"), "2-5:1/-1!0");
        for (int i = 2; i <= 8; i++) {
            CHECK.due("the other thing's, too", told.neighbour("n" + (char) ('a' + i), 6), i);
        }
        CHECK.due("its ninth", told.neighbour("nz", 6), NONE);
    }

    private static void thisOneIsOne() {
        CHECK.sentence("5: NONE: this one is one");
        Told told = new Told();
        CHECK.due("the first", told.neighbour("sea", 3), 1);
        CHECK.due("again", told.neighbour("sea", 3), NONE);
        CHECK.due("nothing waits", told.total(2), 0);
        CHECK.due("its begin", told.neighbour("se", 3), 2);
        CHECK.due("more than it", told.neighbour("seas", 3), 3);
        CHECK.due("the first once more", told.neighbour("sea", 3), NONE);
        CHECK.due("the last once more", told.neighbour("seas", 3), NONE);
        CHECK.due("of another thing", told.neighbour("sea", 4), 1);
        CHECK.due("the next one counts on", told.neighbour("air", 3), 4);
        told.term("key", 3, 0, 0);
        told.term("key", 4, 0, 0);
        CHECK.due("told twice, it counts once", told.uses(0, "sea key"), "4-7:-1/-1!1");
    }

    private static void wrongNeighbourThing() {
        CHECK.sentence("5: IllegalArgumentException: no such THING (what waits stays)");
        Told told = new Told();
        told.wait("sea");
        for (int thing : new int[] {-1, 40, 64, MIN, MAX}) {
            CHECK.refused("thing " + thing, WRONG, () -> told.neighbour(thing));
            CHECK.due("what waits stays", told.total(2), 3);
        }
        CHECK.due("the last thing", told.neighbour(39), 1);
        CHECK.due("nothing waits", told.total(2), 0);
        told.wait("a b");
        CHECK.refused("not one word besides", WRONG, () -> told.neighbour(40));
        CHECK.due("that stays, too", told.total(2), 3);
        CHECK.due("and is none", told.neighbour(0), NONE);
        CHECK.due("the first thing", told.neighbour("sea", 0), 1);
    }
}
