import java.util.Random;

/** All promises: long runs of calls (the same ones each time), each answer held against PlainKeeper's. */
public final class RandomRunsTest {
    private static final Check CHECK = new Check("RandomRunsTest");
    private static final String[] WORDS = {"a", "b", "ab", "ba", "as", "abs", "cat", "cats", "bank", "river", "sea", "aa", "abcdefghijkl"};
    private static final String[] ENDINGS = {"s", "es", "b", "a", "s", "ness"};
    private static final String[] BETWEEN = {" ", " ", " ", " ", "\n", "  ", ". ", "; ", "!", "?", ", ", "-", "\0", " \u00e9", " \n"};
    private static final int[] ODD = {-1, -2, 5, 8, 27, 40, 41, 60, 63, 64, 600, 601, Integer.MIN_VALUE, Integer.MAX_VALUE};

    private final Random random;
    private final TermKeeper keeper = new TermKeeper();
    private final PlainKeeper plain = new PlainKeeper();
    private final String run;
    private int things;
    private int commonWords = 6;
    private int calls;

    private RandomRunsTest(int seed) {
        random = new Random(seed);
        run = "run " + seed + ": ";
        things = 2 + random.nextInt(random.nextInt(4) == 0 ? 12 : 4);
    }

    public static void main(String[] args) {
        CHECK.sentence("all promises, against PlainKeeper");
        for (int seed = 0; seed < Integer.getInteger("runs", 240) && CHECK.isRight(); seed++) {
            RandomRunsTest test = new RandomRunsTest(seed);
            switch (seed % 4) {
                case 0:
                    test.crowdedRun();
                    break;
                case 1:
                    test.longTextRun();
                    break;
                case 2:
                    test.definitionsRun();
                    break;
                default:
                    test.mixedRun();
                    break;
            }
        }
        CHECK.end();
    }

    private boolean goesOn() {
        return calls < Told.MOST_CALLS && CHECK.isRight();
    }

    private void mixedRun() {
        int early = 60 + random.nextInt(200);
        while (goesOn()) {
            if (calls < early) {
                tell();
            } else {
                ask();
            }
        }
    }

    /** Short rows, so that there are sixty terms, six endings and eight neighbours while calls are left. */
    private void crowdedRun() {
        things = 1 + random.nextInt(40);
        commonWords = 2;
        while (goesOn() && calls < 320) {
            switch (random.nextInt(8)) {
                case 0:
                    wait(ENDINGS[random.nextInt(4)]);
                    same("ending()", keeper::ending, plain::ending);
                    break;
                case 1:
                case 2:
                    wait("" + (char) ('a' + random.nextInt(10)));
                    tellNeighbour(random.nextInt(2));
                    break;
                default:
                    wait("" + (char) ('a' + random.nextInt(3)));
                    tellTerm();
                    break;
            }
        }
        for (int i = random.nextInt(12); i > 0; i--) {
            writeText(i % 2);
        }
        while (goesOn()) {
            ask();
        }
    }

    /** Texts near six hundred bytes, and mends that make them longer. */
    private void longTextRun() {
        things = 1 + random.nextInt(3);
        for (int i = 0; i < 10 && goesOn(); i++) {
            wait(word());
            tellTerm();
        }
        wait("abcdefghijkl");
        same("term(0, 0, 63)", () -> keeper.term(0, 0, 63), () -> plain.term(0, 0, 63));
        for (int i = 0; i < 31; i++) {
            writeText(0);
        }
        while (goesOn()) {
            int cut = 560 + random.nextInt(42);
            switch (random.nextInt(8)) {
                case 0:
                    same("cut(0, " + cut + ")", () -> keeper.cut(0, cut), () -> plain.cut(0, cut));
                    break;
                case 1:
                    writeText(0);
                    break;
                case 2:
                    int use = random.nextInt(150);
                    same("mend(0, " + use + ")", () -> keeper.mend(0, use), () -> plain.mend(0, use));
                    break;
                case 3:
                    same("byteAt(0, " + cut + ")", () -> keeper.byteAt(0, cut), () -> plain.byteAt(0, cut));
                    break;
                case 4:
                    lookAtBytes(0);
                    break;
                default:
                    ask();
                    break;
            }
        }
    }

    /** Rings and sets of about fourteen things. */
    private void definitionsRun() {
        things = 3 + random.nextInt(16);
        int shift = random.nextInt(41 - things);
        int most = 1 + random.nextInt(3);
        int asked = 0;
        while (goesOn() && asked < 60) {
            int thing = shift + random.nextInt(things);
            long bits = 0;
            for (int i = random.nextInt(most + 1); i > 0; i--) {
                bits |= 1L << shift + random.nextInt(things);
            }
            long told = random.nextInt(6) == 0 ? bits : bits & ~(1L << thing);
            same("define(" + thing + ", " + told + ")", () -> keeper.define(thing, told), () -> plain.define(thing, told));
            if (random.nextInt(4) == 0) {
                asked++;
                askDefinitions();
            }
        }
    }

    private void same(String call, Check.Call got, Check.Call want) {
        if (calls < Told.MOST_CALLS) {
            calls++;
            CHECK.due(run + "call " + calls + " " + call, Check.answerOf(got), Check.answerOf(want));
        }
    }

    private int number(int most) {
        return random.nextInt(60) == 0 ? ODD[random.nextInt(ODD.length)] : random.nextInt(most);
    }

    private String word() {
        return WORDS[random.nextInt(random.nextInt(3) == 0 ? WORDS.length : commonWords)];
    }

    private void tell() {
        switch (random.nextInt(10)) {
            case 0:
                wait(random.nextInt(20) == 0 ? word() : ENDINGS[random.nextInt(ENDINGS.length)]);
                same("ending()", keeper::ending, plain::ending);
                break;
            case 1:
            case 2:
            case 3:
                waitForTerm();
                tellTerm();
                break;
            case 4:
            case 5:
                wait(word());
                tellNeighbour(number(things));
                break;
            case 6:
                tellDefinition();
                break;
            case 7:
                int known = number(things);
                boolean now = random.nextBoolean();
                same("know(" + known + ")", () -> keeper.know(known, now), () -> plain.know(known, now));
                break;
            default:
                writeText(random.nextInt(3) == 0 ? number(8) : 0);
                break;
        }
    }

    private void waitForTerm() {
        StringBuilder row = new StringBuilder(word());
        int more = random.nextInt(20) == 0 ? 3 : random.nextInt(5) - 2;
        for (int i = 0; i < more; i++) {
            row.append(random.nextInt(30) == 0 ? "  " : " ").append(word());
        }
        wait(row.toString());
    }

    private void tellTerm() {
        int thing = number(things);
        int kind = number(4);
        int classes = number(64);
        same("term(" + thing + ", " + kind + ", " + classes + ")",
                () -> keeper.term(thing, kind, classes), () -> plain.term(thing, kind, classes));
    }

    private void tellNeighbour(int thing) {
        same("neighbour(" + thing + ")", () -> keeper.neighbour(thing), () -> plain.neighbour(thing));
    }

    private void tellDefinition() {
        int thing = number(things);
        int far = random.nextInt(20) == 0 ? 41 : things;
        long bits = 0;
        for (int i = random.nextInt(3); i > 0; i--) {
            bits |= 1L << random.nextInt(far);
        }
        long told = random.nextInt(60) == 0 ? -bits : bits;
        same("define(" + thing + ", " + told + ")", () -> keeper.define(thing, told), () -> plain.define(thing, told));
    }

    private void wait(String row) {
        for (int i = 0; i < row.length(); i++) {
            int v = row.charAt(i) == ' ' ? 26 : row.charAt(i) - 'a';
            same("letter(" + v + ")", () -> keeper.letter(v), () -> plain.letter(v));
        }
    }

    private String wordInText() {
        String word = word() + (random.nextInt(3) == 0 ? ENDINGS[random.nextInt(ENDINGS.length)] : "");
        switch (random.nextInt(5)) {
            case 0:
                return word.toUpperCase();
            case 1:
                return Character.toUpperCase(word.charAt(0)) + word.substring(1);
            default:
                return word;
        }
    }

    private void writeText(int text) {
        StringBuilder signs = new StringBuilder();
        while (signs.length() < 20) {
            signs.append(wordInText()).append(BETWEEN[random.nextInt(BETWEEN.length)]);
        }
        int[] told = new int[5];
        for (int i = 0; i < 5; i++) {
            told[i] = Told.number(signs, 4 * i);
        }
        same("write(" + text + ")", () -> keeper.write(text, told[0], told[1], told[2], told[3], told[4]),
                () -> plain.write(text, told[0], told[1], told[2], told[3], told[4]));
    }

    private void ask() {
        int text = random.nextInt(3) == 0 ? number(8) : 0;
        int i = number(12);
        int what = number(5);
        switch (random.nextInt(16)) {
            case 0:
                same("uses(" + text + ")", () -> keeper.uses(text), () -> plain.uses(text));
                break;
            case 1:
            case 2:
            case 3:
            case 4:
                same("use(" + text + ", " + i + ", " + what + ")", () -> keeper.use(text, i, what), () -> plain.use(text, i, what));
                break;
            case 5:
                same("mend(" + text + ", " + i + ")", () -> keeper.mend(text, i), () -> plain.mend(text, i));
                lookAtBytes(text);
                break;
            case 6:
                if (random.nextInt(6) == 0) {
                    same("mendAll(" + text + ")", () -> keeper.mendAll(text), () -> plain.mendAll(text));
                    lookAtBytes(text);
                }
                break;
            case 7:
                int n = random.nextInt(4) == 0 ? number(120) : plainSize(text) - random.nextInt(3);
                same("cut(" + text + ", " + n + ")", () -> keeper.cut(text, n), () -> plain.cut(text, n));
                break;
            case 8:
                same("count(" + i + ")", () -> keeper.count(i), () -> plain.count(i));
                break;
            case 9:
                int other = number(8);
                same("crossing(" + text + ", " + other + ")", () -> keeper.crossing(text, other), () -> plain.crossing(text, other));
                break;
            case 10:
                askDefinitions();
                break;
            case 11:
                same("total(" + what + ")", () -> keeper.total(what), () -> plain.total(what));
                break;
            case 12:
                same("about(" + i + ", " + what + ")", () -> keeper.about(i, what), () -> plain.about(i, what));
                break;
            case 13:
                int kind = number(4);
                same("kind(" + i + ", " + kind + ")", () -> keeper.kind(i, kind), () -> plain.kind(i, kind));
                break;
            default:
                tell();
                break;
        }
    }

    private int plainSize(int text) {
        return text < 0 || text > 7 ? 0 : plain.byteAt(text, -1);
    }

    /** How many, the edges, and some bytes in a row somewhere. */
    private void lookAtBytes(int text) {
        int size = plainSize(text);
        int from = random.nextInt(size + 1);
        lookAtByte(text, -1);
        lookAtByte(text, size - 1);
        lookAtByte(text, size);
        for (int k = from; k < from + 8 && k < size; k++) {
            lookAtByte(text, k);
        }
    }

    private void lookAtByte(int text, int k) {
        same("byteAt(" + text + ", " + k + ")", () -> keeper.byteAt(text, k), () -> plain.byteAt(text, k));
    }

    private void askDefinitions() {
        int i = random.nextInt(3) == 0 ? -1 : number(4);
        same("ring(" + i + ")", () -> keeper.ring(i), () -> plain.ring(i));
        same("fewest()", () -> keeper.fewest(), () -> plain.fewest());
    }
}
