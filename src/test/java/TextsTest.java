import java.util.NoSuchElementException;

/** Promises 10 to 12: bytes of texts; and texts that are none, everywhere. */
public final class TextsTest {
    private static final Check CHECK = new Check("TextsTest");
    private static final Class<IllegalArgumentException> WRONG = IllegalArgumentException.class;
    private static final Class<NoSuchElementException> MISSING = NoSuchElementException.class;
    private static final int NONE = TermKeeper.NONE;
    private static final int MIN = Integer.MIN_VALUE;
    private static final int MAX = Integer.MAX_VALUE;

    public static void main(String[] args) {
        highestFirst();
        howManyItHas();
        sixHundred();
        oneTooMany();
        textsApart();
        firstBytesAlone();
        notSoMany();
        belowNone();
        cutBytesAreGone();
        byteValues();
        howManyBytes();
        noSuchByte();
        noSuchText();
        lastTexts();
        CHECK.end();
    }

    private static void highestFirst() {
        CHECK.sentence("10: Twenty bytes come behind a TEXT, of each number the highest first");
        Told told = new Told();
        CHECK.due("twenty", told.write(3, 0x00017F80, 0xFFFEFDFC, 0x04050607, 0x80090A0B, 0x0C0D0EFF), 20);
        int[] due = {0, 1, 127, 128, 255, 254, 253, 252, 4, 5, 6, 7, 128, 9, 10, 11, 12, 13, 14, 255};
        for (int i = 0; i < 20; i++) {
            CHECK.due("byte " + i, told.byteAt(3, i), due[i]);
        }
        told.cut(3, 0);
        told.write(3, -1, 0, MIN, MAX, 1);
        int[] edges = {255, 255, 255, 255, 0, 0, 0, 0, 128, 0, 0, 0, 127, 255, 255, 255, 0, 0, 0, 1};
        for (int i = 0; i < 20; i++) {
            CHECK.due("byte of the edges " + i, told.byteAt(3, i), edges[i]);
        }
    }

    private static void howManyItHas() {
        CHECK.sentence("10: how many it has");
        Told told = new Told();
        CHECK.due("the first twenty", told.write(0, 1, 1, 1, 1, 1), 20);
        CHECK.due("behind them", told.write(0, 2, 2, 2, 2, 2), 40);
        CHECK.due("the last of the first", told.byteAt(0, 19), 1);
        CHECK.due("the last of the second", told.byteAt(0, 39), 2);
        told.cut(0, 7);
        CHECK.due("behind seven", told.write(0, 3, 3, 3, 3, 0x04030201), 27);
        CHECK.due("the first behind seven", told.byteAt(0, 7), 0);
        CHECK.due("the highest of the last number", told.byteAt(0, 23), 4);
        CHECK.due("the lowest of it", told.byteAt(0, 26), 1);
    }

    private static void sixHundred() {
        CHECK.sentence("10: TEXTS: bytes, at most 600 each");
        Told told = new Told();
        for (int i = 1; i <= 30; i++) {
            CHECK.due("write " + i, told.write(7, i, i, i, i, i), 20 * i);
        }
        CHECK.due("the last byte", told.byteAt(7, 599), 30);
        CHECK.due("the first number's", told.byteAt(7, 3), 1);
        told.cut(7, 580);
        CHECK.due("580 and twenty", told.write(7, 1, 1, 1, 1, 77), 600);
        CHECK.due("the new last byte", told.byteAt(7, 599), 77);
    }

    private static void oneTooMany() {
        CHECK.sentence("10: NONE, and none come: it would have more than 600");
        for (int size : new int[] {581, 590, 599, 600}) {
            Told told = new Told();
            told.text(0, "x".repeat(size));
            CHECK.due("behind " + size, told.write(0, 1, 1, 1, 1, 1), NONE);
            CHECK.due("none came", told.byteAt(0, NONE), size);
            CHECK.refused("no byte behind", MISSING, () -> told.byteAt(0, size));
            CHECK.due("the last one stays", told.byteAt(0, size - 1), (int) 'x');
            CHECK.due("another text takes them", told.write(1, 1, 1, 1, 1, 1), 20);
            told.cut(0, 580);
            CHECK.due("room again", told.write(0, 1, 1, 1, 1, 1), 600);
        }
    }

    private static void textsApart() {
        CHECK.sentence("10: TEXTS 0 to 7");
        Told told = new Told();
        for (int text = 0; text < 8; text++) {
            told.text(text, "text " + text);
        }
        CHECK.due("one is cut", told.cut(3, 0), 6);
        for (int text = 0; text < 8; text++) {
            CHECK.due("text " + text, told.text(text), text == 3 ? "" : "text " + text);
        }
    }

    private static void firstBytesAlone() {
        CHECK.sentence("11: A TEXT has its first n bytes alone: how many went");
        Told told = new Told();
        CHECK.due("nothing of nothing", told.cut(7, 0), 0);
        told.text(7, "abcdefgh");
        CHECK.due("as many as it has", told.cut(7, 8), 0);
        CHECK.due("whole", told.text(7), "abcdefgh");
        CHECK.due("one less", told.cut(7, 7), 1);
        CHECK.due("its first seven", told.text(7), "abcdefg");
        CHECK.due("one", told.cut(7, 1), 6);
        CHECK.due("its first", told.text(7), "a");
        CHECK.due("none", told.cut(7, 0), 1);
        CHECK.due("empty", told.byteAt(7, NONE), 0);
        told.text(6, "x".repeat(600));
        CHECK.due("all of a full one", told.cut(6, 600), 0);
        CHECK.due("none of a full one", told.cut(6, 0), 600);
    }

    private static void notSoMany() {
        CHECK.sentence("11: NONE: it has not so many");
        Told told = new Told();
        CHECK.due("one of nothing", told.cut(0, 1), NONE);
        told.text(0, "abc");
        for (int n : new int[] {4, 5, 20, 600, 601, MAX}) {
            CHECK.due("cut to " + n, told.cut(0, n), NONE);
            CHECK.due("it stays", told.text(0), "abc");
        }
    }

    private static void belowNone() {
        CHECK.sentence("11: NONE: n is below 0");
        Told told = new Told();
        CHECK.due("of an empty one", told.cut(0, -1), NONE);
        told.text(0, "abc");
        for (int n : new int[] {-1, -3, MIN}) {
            CHECK.due("cut to " + n, told.cut(0, n), NONE);
            CHECK.due("it stays", told.text(0), "abc");
        }
    }

    private static void cutBytesAreGone() {
        CHECK.sentence("11: its first n bytes alone");
        Told told = new Told();
        told.term("cat", 0, 0, 0);
        told.text(0, "cat cat");
        CHECK.due("both", told.uses(0), 2);
        told.cut(0, 6);
        CHECK.due("the second one's end is gone", told.uses(0), 1);
        CHECK.refused("its last byte", MISSING, () -> told.byteAt(0, 6));
        told.cut(0, 2);
        CHECK.due("the first one's, too", told.uses(0), 0);
        CHECK.due("nothing of old is behind a write", told.write(0, 0x20202020, 0x20202020, 0x20202020, 0x20202020, 0x20202020), 22);
        CHECK.due("blanks alone", told.part(0, 0, 8), "ca      ");
    }

    private static void byteValues() {
        CHECK.sentence("12: Byte k of a TEXT (0 to 255)");
        Told told = new Told();
        for (int first = 0; first < 256; first += 4) {
            int number = first << 24 | first + 1 << 16 | first + 2 << 8 | first + 3;
            told.cut(1, 0);
            told.write(1, number, 0, 0, 0, 0);
            for (int i = 0; i < 4; i++) {
                CHECK.due("byte " + (first + i), told.byteAt(1, i), first + i);
            }
        }
    }

    private static void howManyBytes() {
        CHECK.sentence("12: k NONE: how many");
        Told told = new Told();
        CHECK.due("none", told.byteAt(5, NONE), 0);
        told.write(5, 1, 1, 1, 1, 1);
        CHECK.due("twenty", told.byteAt(5, NONE), 20);
        told.cut(5, 1);
        CHECK.due("one", told.byteAt(5, NONE), 1);
        told.text(5, " ".repeat(600));
        CHECK.due("six hundred", told.byteAt(5, NONE), 600);
    }

    private static void noSuchByte() {
        CHECK.sentence("12: NoSuchElementException: there is none");
        Told told = new Told();
        CHECK.refused("the first of none", MISSING, () -> told.byteAt(0, 0));
        told.text(0, "abc");
        CHECK.due("the first", told.byteAt(0, 0), (int) 'a');
        CHECK.due("the last", told.byteAt(0, 2), (int) 'c');
        for (int k : new int[] {3, 4, 599, 600, -2, MIN, MAX}) {
            CHECK.refused("byte " + k, MISSING, () -> told.byteAt(0, k));
        }
        told.text(0, "x".repeat(600));
        CHECK.due("the last of six hundred", told.byteAt(0, 599), (int) 'x');
        CHECK.refused("behind six hundred", MISSING, () -> told.byteAt(0, 600));
    }

    private static void noSuchText() {
        CHECK.sentence("10: IllegalArgumentException: no such TEXT (as everywhere)");
        Told told = new Told();
        for (int text : new int[] {-1, 8, MIN, MAX}) {
            CHECK.refused("write", WRONG, () -> told.write(text, 0, 0, 0, 0, 0));
            CHECK.refused("cut", WRONG, () -> told.cut(text, 0));
            CHECK.refused("cut below 0", WRONG, () -> told.cut(text, -1));
            CHECK.refused("byteAt", WRONG, () -> told.byteAt(text, NONE));
            CHECK.refused("byteAt no byte", WRONG, () -> told.byteAt(text, -2));
            CHECK.refused("uses", WRONG, () -> told.uses(text));
            CHECK.refused("use", WRONG, () -> told.use(text, 0, 0));
            CHECK.refused("use of nothing such", WRONG, () -> told.use(text, -1, 9));
            CHECK.refused("mend", WRONG, () -> told.mend(text, 0));
            CHECK.refused("mend of no use", WRONG, () -> told.mend(text, -1));
            CHECK.refused("mendAll", WRONG, () -> told.mendAll(text));
            CHECK.refused("crossing from", WRONG, () -> told.crossing(text, 0));
            CHECK.refused("crossing to", WRONG, () -> told.crossing(0, text));
            CHECK.refused("crossing with itself", WRONG, () -> told.crossing(text, text));
        }
        for (int text = 0; text < 8; text++) {
            CHECK.due("nothing came to text " + text, told.byteAt(text, NONE), 0);
        }
    }

    private static void lastTexts() {
        CHECK.sentence("10: TEXTS 0 to 7, the first and the last in every call");
        Told told = new Told();
        told.term("cat", 0, 0, 0);
        told.term("puss", 0, 1, 0);
        for (int text : new int[] {0, 7}) {
            told.text(text, "puss puss");
            CHECK.due("uses", told.uses(text), 2);
            CHECK.due("use", told.use(text, 1, 0), 5);
            CHECK.due("mend", told.mend(text, 0), true);
            CHECK.due("mendAll", told.mendAll(text), 1);
            CHECK.due("the text", told.text(text), "cat cat");
        }
        CHECK.due("crossing", told.crossing(0, 7), 0);
        told.text(7, "puss");
        CHECK.due("crossing now", told.crossing(0, 7), 1);
        CHECK.due("crossing from the last", told.crossing(7, 0), 1);
    }
}
