/** A TermKeeper to which rows and texts are told as Strings. */
final class Told {
    final TermKeeper keeper = new TermKeeper();

    void wait(String row) {
        for (int i = 0; i < row.length(); i++) {
            keeper.letter(row.charAt(i) == ' ' ? 26 : row.charAt(i) - 'a');
        }
    }

    int ending(String row) {
        wait(row);
        return keeper.ending();
    }

    int term(String row, int thing, int kind, int classes) {
        wait(row);
        return keeper.term(thing, kind, classes);
    }

    int neighbour(String row, int thing) {
        wait(row);
        return keeper.neighbour(thing);
    }

    /** The text becomes these signs and nothing else. */
    void text(int text, String signs) {
        keeper.cut(text, 0);
        StringBuilder padded = new StringBuilder(signs);
        while (padded.length() % 20 != 0) {
            padded.append(' ');
        }
        for (int i = 0; i < padded.length(); i += 20) {
            keeper.write(text, number(padded, i), number(padded, i + 4), number(padded, i + 8),
                    number(padded, i + 12), number(padded, i + 16));
        }
        keeper.cut(text, signs.length());
    }

    static int number(CharSequence signs, int at) {
        return signs.charAt(at) << 24 | signs.charAt(at + 1) << 16 | signs.charAt(at + 2) << 8 | signs.charAt(at + 3);
    }

    String text(int text) {
        StringBuilder signs = new StringBuilder();
        int size = keeper.byteAt(text, TermKeeper.NONE);
        for (int i = 0; i < size; i++) {
            signs.append((char) keeper.byteAt(text, i));
        }
        return signs.toString();
    }

    /** All USES: begin-end:term/ending!finding, one behind the other. */
    String uses(int text) {
        StringBuilder all = new StringBuilder();
        int many = keeper.uses(text);
        for (int i = 0; i < many; i++) {
            all.append(i == 0 ? "" : " ").append(keeper.use(text, i, 0)).append('-').append(keeper.use(text, i, 1));
            all.append(':').append(keeper.use(text, i, 2)).append('/').append(keeper.use(text, i, 3));
            all.append('!').append(keeper.use(text, i, 4));
        }
        return all.toString();
    }

    String ring() {
        StringBuilder all = new StringBuilder();
        int many = keeper.ring(TermKeeper.NONE);
        for (int i = 0; i < many; i++) {
            all.append(i == 0 ? "" : " ").append(keeper.ring(i));
        }
        return all.toString();
    }
}
