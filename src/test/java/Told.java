/**
 * A TermKeeper to which rows and texts are told as Strings.
 * It counts its calls, because nothing is promised of an object behind its 512th.
 */
final class Told {
    static final int MOST_CALLS = 512;

    private final TermKeeper keeper = new TermKeeper();
    private int calls;

    private TermKeeper asked() {
        calls++;
        if (calls > MOST_CALLS) {
            throw new AssertionError("the test asks for more calls than are promised");
        }
        return keeper;
    }

    int calls() {
        return calls;
    }

    int letter(int v) {
        return asked().letter(v);
    }

    int ending() {
        return asked().ending();
    }

    int term(int thing, int kind, int classes) {
        return asked().term(thing, kind, classes);
    }

    int neighbour(int thing) {
        return asked().neighbour(thing);
    }

    long define(int thing, long things) {
        return asked().define(thing, things);
    }

    boolean know(int thing, boolean known) {
        return asked().know(thing, known);
    }

    int kind(int term, int kind) {
        return asked().kind(term, kind);
    }

    int about(int term, int what) {
        return asked().about(term, what);
    }

    int write(int text, int a, int b, int c, int d, int e) {
        return asked().write(text, a, b, c, d, e);
    }

    int cut(int text, int n) {
        return asked().cut(text, n);
    }

    int byteAt(int text, int k) {
        return asked().byteAt(text, k);
    }

    int uses(int text) {
        return asked().uses(text);
    }

    int use(int text, int i, int what) {
        return asked().use(text, i, what);
    }

    boolean mend(int text, int i) {
        return asked().mend(text, i);
    }

    int mendAll(int text) {
        return asked().mendAll(text);
    }

    int count(int term) {
        return asked().count(term);
    }

    int ring(int i) {
        return asked().ring(i);
    }

    long fewest() {
        return asked().fewest();
    }

    long crossing(int text, int other) {
        return asked().crossing(text, other);
    }

    int total(int what) {
        return asked().total(what);
    }

    void wait(String row) {
        for (int i = 0; i < row.length(); i++) {
            letter(row.charAt(i) == ' ' ? 26 : row.charAt(i) - 'a');
        }
    }

    int ending(String row) {
        wait(row);
        return ending();
    }

    int term(String row, int thing, int kind, int classes) {
        wait(row);
        return term(thing, kind, classes);
    }

    int neighbour(String row, int thing) {
        wait(row);
        return neighbour(thing);
    }

    /** The text becomes these signs and nothing else. */
    void text(int text, String signs) {
        cut(text, 0);
        StringBuilder padded = new StringBuilder(signs);
        while (padded.length() % 20 != 0) {
            padded.append(' ');
        }
        for (int i = 0; i < padded.length(); i += 20) {
            write(text, number(padded, i), number(padded, i + 4), number(padded, i + 8),
                    number(padded, i + 12), number(padded, i + 16));
        }
        cut(text, signs.length());
    }

    static int number(CharSequence signs, int at) {
        return signs.charAt(at) << 24 | signs.charAt(at + 1) << 16 | signs.charAt(at + 2) << 8 | signs.charAt(at + 3);
    }

    String text(int text) {
        return part(text, 0, byteAt(text, TermKeeper.NONE));
    }

    /** The signs of a text from one place to ahead of another: a long text has more bytes than a test has calls. */
    String part(int text, int from, int to) {
        StringBuilder signs = new StringBuilder();
        for (int i = from; i < to; i++) {
            signs.append((char) byteAt(text, i));
        }
        return signs.toString();
    }

    /** The i-th USE: begin-end:term/ending!finding. */
    String useAt(int text, int i) {
        return use(text, i, 0) + "-" + use(text, i, 1) + ":" + use(text, i, 2) + "/" + use(text, i, 3) + "!" + use(text, i, 4);
    }

    /** All USES, one behind the other. */
    String uses(int text, String signs) {
        text(text, signs);
        return allUses(text);
    }

    String allUses(int text) {
        StringBuilder all = new StringBuilder();
        int many = uses(text);
        for (int i = 0; i < many; i++) {
            all.append(i == 0 ? "" : " ").append(useAt(text, i));
        }
        return all.toString();
    }

    /** One of what use tells (2 its TERM, 4 its FINDING ..) of all USES, one behind the other. */
    String ofAll(int text, int what) {
        StringBuilder all = new StringBuilder();
        int many = uses(text);
        for (int i = 0; i < many; i++) {
            all.append(i == 0 ? "" : " ").append(use(text, i, what));
        }
        return all.toString();
    }

    /** Endings, terms, bytes that wait, things, mends. */
    String totals() {
        return total(0) + " " + total(1) + " " + total(2) + " " + total(3) + " " + total(4);
    }

    String ring() {
        StringBuilder all = new StringBuilder();
        int many = ring(TermKeeper.NONE);
        for (int i = 0; i < many; i++) {
            all.append(i == 0 ? "" : " ").append(ring(i));
        }
        return all.toString();
    }
}
