import java.util.NoSuchElementException;

/** Promises 10 to 12: bytes of texts. */
public final class TextsTest {
    private static final Check CHECK = new Check("TextsTest");
    private static final Class<IllegalArgumentException> WRONG = IllegalArgumentException.class;
    private static final Class<NoSuchElementException> MISSING = NoSuchElementException.class;
    private static final int NONE = TermKeeper.NONE;

    public static void main(String[] args) {
        bytesInOrder();
        sixHundred();
        cuts();
        textsAreApart();
        wrongTexts();
        CHECK.end();
    }

    private static void bytesInOrder() {
        TermKeeper keeper = new TermKeeper();
        CHECK.due("twenty", keeper.write(3, 0x00017F80, 0xFFFEFDFC, 0x04050607, 0x08090A0B, 0x0C0D0E0F), 20);
        int[] due = {0, 1, 127, 128, 255, 254, 253, 252, 4, 5, 6, 7, 8, 9, 10, 11, 12, 13, 14, 15};
        for (int i = 0; i < 20; i++) {
            CHECK.due("byte " + i, keeper.byteAt(3, i), due[i]);
        }
        CHECK.due("how many", keeper.byteAt(3, NONE), 20);
        CHECK.refused("behind the last", MISSING, () -> keeper.byteAt(3, 20));
        CHECK.refused("below", MISSING, () -> keeper.byteAt(3, -2));
        CHECK.refused("far below", MISSING, () -> keeper.byteAt(3, Integer.MIN_VALUE));
        CHECK.refused("far above", MISSING, () -> keeper.byteAt(3, Integer.MAX_VALUE));
    }

    private static void sixHundred() {
        TermKeeper keeper = new TermKeeper();
        for (int i = 1; i <= 30; i++) {
            CHECK.due("write " + i, keeper.write(0, i, i, i, i, i), 20 * i);
        }
        CHECK.due("too many", keeper.write(0, 1, 1, 1, 1, 1), NONE);
        CHECK.due("none came", keeper.byteAt(0, NONE), 600);
        CHECK.due("the last byte", keeper.byteAt(0, 599), 30);
        CHECK.due("cut to 581", keeper.cut(0, 581), 19);
        CHECK.due("one too many", keeper.write(0, 1, 1, 1, 1, 1), NONE);
        CHECK.due("581 stay", keeper.byteAt(0, NONE), 581);
        CHECK.due("cut to 580", keeper.cut(0, 580), 1);
        CHECK.due("just so many", keeper.write(0, 1, 1, 1, 1, 77), 600);
        CHECK.due("the new last byte", keeper.byteAt(0, 599), 77);
    }

    private static void cuts() {
        Told told = new Told();
        CHECK.due("nothing of nothing", told.keeper.cut(7, 0), 0);
        CHECK.due("more than nothing", told.keeper.cut(7, 1), NONE);
        told.text(7, "abcdefgh");
        CHECK.due("more than it has", told.keeper.cut(7, 9), NONE);
        CHECK.due("below 0", told.keeper.cut(7, -1), NONE);
        CHECK.due("far below 0", told.keeper.cut(7, Integer.MIN_VALUE), NONE);
        CHECK.due("as many as it has", told.keeper.cut(7, 8), 0);
        CHECK.due("still whole", told.text(7), "abcdefgh");
        CHECK.due("its first three", told.keeper.cut(7, 3), 5);
        CHECK.due("those", told.text(7), "abc");
        CHECK.due("all", told.keeper.cut(7, 0), 3);
        CHECK.due("empty", told.text(7), "");
    }

    private static void textsAreApart() {
        Told told = new Told();
        for (int text = 0; text < 8; text++) {
            told.text(text, "text " + text);
        }
        for (int text = 0; text < 8; text++) {
            CHECK.due("text " + text, told.text(text), "text " + text);
        }
    }

    private static void wrongTexts() {
        TermKeeper keeper = new TermKeeper();
        int[] wrong = {-1, 8, Integer.MIN_VALUE, Integer.MAX_VALUE};
        for (int text : wrong) {
            CHECK.refused("write", WRONG, () -> keeper.write(text, 0, 0, 0, 0, 0));
            CHECK.refused("cut", WRONG, () -> keeper.cut(text, 0));
            CHECK.refused("byteAt", WRONG, () -> keeper.byteAt(text, NONE));
            CHECK.refused("uses", WRONG, () -> keeper.uses(text));
            CHECK.refused("use", WRONG, () -> keeper.use(text, 0, 0));
            CHECK.refused("mend", WRONG, () -> keeper.mend(text, 0));
            CHECK.refused("mendAll", WRONG, () -> keeper.mendAll(text));
            CHECK.refused("crossing from", WRONG, () -> keeper.crossing(text, 0));
            CHECK.refused("crossing to", WRONG, () -> keeper.crossing(0, text));
        }
    }
}
