import java.util.Random;

/** All promises: long runs of calls (the same ones each time), each answer held against PlainKeeper's. */
public final class RandomRunsTest {
    private static final Check CHECK = new Check("RandomRunsTest");
    private static final String[] WORDS = {"a", "b", "ab", "ba", "as", "abs", "cat", "cats", "bank", "river", "sea", "aa", "abcdefghijkl"};
    private static final String[] ENDINGS = {"s", "es", "b", "a", "s", "ness"};
    private static final String[] BETWEEN = {" ", " ", " ", " ", "\n", "  ", ". ", "; ", "!", "?", ", ", "-", "\0", " \u00e9", " \n"};
    private static final int[] ODD = {-1, -2, 8, 40, 60, 64, 600, 601, Integer.MIN_VALUE, Integer.MAX_VALUE};

    private final Random random;
    private final TermKeeper keeper = new TermKeeper();
    private final PlainKeeper plain = new PlainKeeper();
    private final String run;
    private final int things;
    private int calls;

    private RandomRunsTest(int seed) {
        random = new Random(seed);
        run = "run " + seed + ": ";
        things = 2 + random.nextInt(random.nextInt(4) == 0 ? 12 : 4);
    }

    public static void main(String[] args) {
        for (int seed = 0; seed < Integer.getInteger("runs", 120) && CHECK.isRight(); seed++) {
            new RandomRunsTest(seed).go();
        }
        CHECK.end();
    }

    private void go() {
        int early = 60 + random.nextInt(200);
        while (calls < 512 && CHECK.isRight()) {
            if (calls < early) {
                tell();
            } else {
                ask();
            }
        }
    }

    private void same(String call, Check.Call got, Check.Call want) {
        calls++;
        CHECK.due(run + "call " + calls + " " + call, Check.answerOf(got), Check.answerOf(want));
    }

    private int number(int most) {
        return random.nextInt(60) == 0 ? ODD[random.nextInt(ODD.length)] : random.nextInt(most);
    }

    private String word() {
        return WORDS[random.nextInt(random.nextInt(3) == 0 ? WORDS.length : 6)];
    }

    private void tell() {
        switch (random.nextInt(10)) {
            case 0:
                wait(random.nextInt(20) == 0 ? word() : ENDINGS[random.nextInt(ENDINGS.length)]);
                same("ending()", keeper::ending, plain::ending);
                break;
            case 1:
            case 2:
            case 3:
                tellTerm();
                break;
            case 4:
            case 5:
                wait(word());
                int thing = number(things);
                same("neighbour(" + thing + ")", () -> keeper.neighbour(thing), () -> plain.neighbour(thing));
                break;
            case 6:
                tellDefinition();
                break;
            case 7:
                int known = number(things);
                boolean now = random.nextBoolean();
                same("know(" + known + ")", () -> keeper.know(known, now), () -> plain.know(known, now));
                break;
            default:
                writeText();
                break;
        }
    }

    private void tellTerm() {
        StringBuilder row = new StringBuilder(word());
        int more = random.nextInt(20) == 0 ? 3 : random.nextInt(5) - 2;
        for (int i = 0; i < more; i++) {
            row.append(random.nextInt(30) == 0 ? "  " : " ").append(word());
        }
        wait(row.toString());
        int thing = number(things);
        int kind = number(4);
        int classes = number(64);
        same("term(" + thing + ", " + kind + ", " + classes + ")",
                () -> keeper.term(thing, kind, classes), () -> plain.term(thing, kind, classes));
    }

    private void tellDefinition() {
        int thing = number(things);
        int far = random.nextInt(20) == 0 ? 41 : things;
        long bits = 0;
        for (int i = random.nextInt(3); i > 0; i--) {
            bits |= 1L << random.nextInt(far);
        }
        long told = random.nextInt(60) == 0 ? -bits : bits;
        same("define(" + thing + ", " + told + ")", () -> keeper.define(thing, told), () -> plain.define(thing, told));
    }

    private void wait(String row) {
        for (int i = 0; i < row.length(); i++) {
            int v = row.charAt(i) == ' ' ? 26 : row.charAt(i) - 'a';
            same("letter(" + v + ")", () -> keeper.letter(v), () -> plain.letter(v));
        }
    }

    private String wordInText() {
        String word = word() + (random.nextInt(3) == 0 ? ENDINGS[random.nextInt(ENDINGS.length)] : "");
        switch (random.nextInt(5)) {
            case 0:
                return word.toUpperCase();
            case 1:
                return Character.toUpperCase(word.charAt(0)) + word.substring(1);
            default:
                return word;
        }
    }

    private void writeText() {
        int text = random.nextInt(3) == 0 ? number(8) : 0;
        StringBuilder signs = new StringBuilder();
        while (signs.length() < 20) {
            signs.append(wordInText()).append(BETWEEN[random.nextInt(BETWEEN.length)]);
        }
        int[] told = new int[5];
        for (int i = 0; i < 5; i++) {
            told[i] = Told.number(signs, 4 * i);
        }
        same("write(" + text + ")", () -> keeper.write(text, told[0], told[1], told[2], told[3], told[4]),
                () -> plain.write(text, told[0], told[1], told[2], told[3], told[4]));
    }

    private void ask() {
        int text = random.nextInt(3) == 0 ? number(8) : 0;
        int i = number(12);
        int what = number(5);
        switch (random.nextInt(16)) {
            case 0:
                same("uses(" + text + ")", () -> keeper.uses(text), () -> plain.uses(text));
                break;
            case 1:
            case 2:
            case 3:
            case 4:
                same("use(" + text + ", " + i + ", " + what + ")", () -> keeper.use(text, i, what), () -> plain.use(text, i, what));
                break;
            case 5:
                same("mend(" + text + ", " + i + ")", () -> keeper.mend(text, i), () -> plain.mend(text, i));
                lookAtBytes(text);
                break;
            case 6:
                if (random.nextInt(6) == 0) {
                    same("mendAll(" + text + ")", () -> keeper.mendAll(text), () -> plain.mendAll(text));
                    lookAtBytes(text);
                }
                break;
            case 7:
                int n = random.nextInt(4) == 0 ? number(120) : plainSize(text) - random.nextInt(3);
                same("cut(" + text + ", " + n + ")", () -> keeper.cut(text, n), () -> plain.cut(text, n));
                break;
            case 8:
                same("count(" + i + ")", () -> keeper.count(i), () -> plain.count(i));
                break;
            case 9:
                int other = number(8);
                same("crossing(" + text + ", " + other + ")", () -> keeper.crossing(text, other), () -> plain.crossing(text, other));
                break;
            case 10:
                askDefinitions();
                break;
            case 11:
                same("total(" + what + ")", () -> keeper.total(what), () -> plain.total(what));
                break;
            case 12:
                same("about(" + i + ", " + what + ")", () -> keeper.about(i, what), () -> plain.about(i, what));
                break;
            case 13:
                int kind = number(4);
                same("kind(" + i + ", " + kind + ")", () -> keeper.kind(i, kind), () -> plain.kind(i, kind));
                break;
            default:
                tell();
                break;
        }
    }

    private int plainSize(int text) {
        return text < 0 || text > 7 ? 0 : plain.byteAt(text, -1);
    }

    private void lookAtBytes(int text) {
        for (int k = -2; k <= plainSize(text); k++) {
            int at = k;
            CHECK.due(run + "byteAt(" + text + ", " + at + ")",
                    Check.answerOf(() -> keeper.byteAt(text, at)), Check.answerOf(() -> plain.byteAt(text, at)));
        }
    }

    private void askDefinitions() {
        int i = random.nextInt(3) == 0 ? -1 : number(4);
        same("ring(" + i + ")", () -> keeper.ring(i), () -> plain.ring(i));
        same("fewest()", () -> keeper.fewest(), () -> plain.fewest());
    }
}
