import java.util.ArrayList;
import java.util.List;
import java.util.Map;
import java.util.NoSuchElementException;
import java.util.TreeMap;
import java.util.TreeSet;
import java.util.regex.Matcher;
import java.util.regex.Pattern;

/**
 * The document once more, written from its words with Strings and lists and without a thought of speed,
 * so that the class can be held against it.
 */
final class PlainKeeper {
    private static final class Term {
        String row;
        int thing;
        int kind;
        int classes;
    }

    private static final class Word {
        int begin;
        int end;
        String small;
        int sentence;
    }

    private static final class Use {
        int begin;
        int end;
        int term = -1;
        int ending = -1;
        int finding;
    }

    private static final Pattern LETTERS = Pattern.compile("[A-Za-z]+");

    private String waiting = "";
    private final List<String> endings = new ArrayList<>();
    private final List<Term> terms = new ArrayList<>();
    private final List<List<String>> neighbours = new ArrayList<>();
    private final List<TreeSet<Integer>> definitions = new ArrayList<>();
    private final boolean[] known = new boolean[40];
    private final String[] texts = new String[8];
    private int mends;

    PlainKeeper() {
        for (int thing = 0; thing < 40; thing++) {
            neighbours.add(new ArrayList<>());
            definitions.add(new TreeSet<>());
        }
        for (int text = 0; text < 8; text++) {
            texts[text] = "";
        }
    }

    int letter(int v) {
        if (v < 0 || v > 26 || waiting.length() == 40) {
            return -1;
        }
        waiting += "abcdefghijklmnopqrstuvwxyz ".charAt(v);
        return waiting.length();
    }

    private String taken() {
        String row = waiting;
        waiting = "";
        return row;
    }

    int ending() {
        String row = taken();
        if (endings.size() == 6 || !row.matches("[a-z]{1,4}")) {
            return -1;
        }
        endings.add(row);
        return endings.size() - 1;
    }

    int term(int thing, int kind, int classes) {
        wrongIf(thing < 0 || thing > 39 || kind < 0 || kind > 3 || classes < 0 || classes > 63);
        String row = taken();
        if (terms.size() == 60 || !row.matches("[a-z]{1,12}( [a-z]{1,12}){0,2}")) {
            return -1;
        }
        Term term = new Term();
        term.row = row;
        term.thing = thing;
        term.kind = kind;
        term.classes = classes;
        terms.add(term);
        return terms.size() - 1;
    }

    int neighbour(int thing) {
        wrongIf(thing < 0 || thing > 39);
        String row = taken();
        List<String> held = neighbours.get(thing);
        if (held.size() == 8 || held.contains(row) || !row.matches("[a-z]{1,12}")) {
            return -1;
        }
        held.add(row);
        return held.size();
    }

    long define(int thing, long things) {
        wrongIf(thing < 0 || thing > 39 || things < 0 || things > 0xFF_FFFF_FFFFL);
        long before = 0;
        for (int other : definitions.get(thing)) {
            before += 1L << other;
        }
        definitions.get(thing).clear();
        for (int other = 0; other < 40; other++) {
            if ((things & 1L << other) != 0) {
                definitions.get(thing).add(other);
            }
        }
        return before;
    }

    boolean know(int thing, boolean now) {
        wrongIf(thing < 0 || thing > 39);
        boolean before = known[thing];
        known[thing] = now;
        return before;
    }

    int kind(int term, int kind) {
        missingIf(term < 0 || term >= terms.size());
        wrongIf(kind < 0 || kind > 3);
        int before = terms.get(term).kind;
        terms.get(term).kind = kind;
        return before;
    }

    int about(int term, int what) {
        missingIf(term < 0 || term >= terms.size() || what < 0 || what > 4);
        Term held = terms.get(term);
        int[] all = {held.thing, held.kind, held.classes, held.row.split(" ").length, held.row.replace(" ", "").length()};
        return all[what];
    }

    int write(int text, int a, int b, int c, int d, int e) {
        wrongIf(text < 0 || text > 7);
        if (texts[text].length() + 20 > 600) {
            return -1;
        }
        for (int number : new int[] {a, b, c, d, e}) {
            for (int place = 3; place >= 0; place--) {
                texts[text] += (char) (number >> 8 * place & 255);
            }
        }
        return texts[text].length();
    }

    int cut(int text, int n) {
        wrongIf(text < 0 || text > 7);
        int before = texts[text].length();
        if (n < 0 || n > before) {
            return -1;
        }
        texts[text] = texts[text].substring(0, n);
        return before - n;
    }

    int byteAt(int text, int k) {
        wrongIf(text < 0 || text > 7);
        if (k == -1) {
            return texts[text].length();
        }
        missingIf(k < 0 || k >= texts[text].length());
        return texts[text].charAt(k);
    }

    private static List<Word> wordsOf(String text) {
        List<Word> words = new ArrayList<>();
        Matcher matcher = LETTERS.matcher(text);
        while (matcher.find()) {
            Word word = new Word();
            word.begin = matcher.start();
            word.end = matcher.end();
            word.small = matcher.group().toLowerCase();
            word.sentence = text.substring(0, word.begin).replaceAll("[^.!?;]", "").length();
            words.add(word);
        }
        return words;
    }

    /** -2: it is no FORM of the TERM. */
    private int wayOf(Term term, String row) {
        if (row.equals(term.row)) {
            return -1;
        }
        for (int i = 0; i < endings.size(); i++) {
            String last = term.row.substring(term.row.lastIndexOf(' ') + 1) + endings.get(i);
            if ((term.classes & 1 << i) != 0 && last.length() <= 16 && row.equals(term.row + endings.get(i))) {
                return i;
            }
        }
        return -2;
    }

    /** The row of so many WORDS from there on, or null if they don't stand TOGETHER. */
    private static String rowAt(String text, List<Word> words, int first, int many) {
        if (first + many > words.size()) {
            return null;
        }
        StringBuilder row = new StringBuilder(words.get(first).small);
        for (int i = first + 1; i < first + many; i++) {
            String between = text.substring(words.get(i - 1).end, words.get(i).begin);
            if (!between.equals(" ") && !between.equals("\n")) {
                return null;
            }
            row.append(' ').append(words.get(i).small);
        }
        return row.toString();
    }

    private int scoreOf(int thing, List<Word> words, int first, int many) {
        int score = 0;
        for (int i = 0; i < words.size(); i++) {
            boolean outside = i < first || i >= first + many;
            boolean same = words.get(i).sentence == words.get(first).sentence;
            if (outside && same && neighbours.get(thing).contains(words.get(i).small)) {
                score++;
            }
        }
        return score;
    }

    private void giveTerm(Use use, String row, List<Word> words, int first, int many) {
        TreeSet<Integer> things = new TreeSet<>();
        for (Term term : terms) {
            if (wayOf(term, row) != -2) {
                things.add(term.thing);
            }
        }
        Map<Integer, Integer> scores = new TreeMap<>();
        for (int thing : things) {
            scores.put(thing, scoreOf(thing, words, first, many));
        }
        for (int thing : things) {
            boolean more = true;
            for (int other : things) {
                more &= other == thing || scores.get(thing) > scores.get(other);
            }
            for (int i = terms.size() - 1; i >= 0 && more; i--) {
                if (terms.get(i).thing == thing && wayOf(terms.get(i), row) != -2) {
                    use.term = i;
                    use.ending = wayOf(terms.get(i), row);
                }
            }
        }
    }

    private int findingOf(Use use, List<Use> ahead) {
        if (use.term == -1) {
            return 1;
        }
        Term term = terms.get(use.term);
        if (term.kind == 1) {
            return 2;
        }
        boolean spelled = false;
        TreeSet<Integer> open = new TreeSet<>(definitions.get(term.thing));
        for (Use other : ahead) {
            if (other.term != -1) {
                Term its = terms.get(other.term);
                spelled |= its.thing == term.thing && its.kind == 0;
                open.remove(its.thing);
            }
        }
        open.removeIf(thing -> known[thing]);
        return term.kind == 2 && !spelled ? 3 : open.isEmpty() ? 0 : 4;
    }

    private List<Use> usesOf(String text) {
        List<Word> words = wordsOf(text);
        List<Use> uses = new ArrayList<>();
        int first = 0;
        while (first < words.size()) {
            int taken = 1;
            for (int many = 3; many >= 1; many--) {
                String row = rowAt(text, words, first, many);
                boolean form = row != null && terms.stream().anyMatch(term -> wayOf(term, row) != -2);
                if (form) {
                    Use use = new Use();
                    use.begin = words.get(first).begin;
                    use.end = words.get(first + many - 1).end;
                    giveTerm(use, row, words, first, many);
                    use.finding = findingOf(use, uses);
                    uses.add(use);
                    taken = many;
                    break;
                }
            }
            first += taken;
        }
        return uses;
    }

    int uses(int text) {
        wrongIf(text < 0 || text > 7);
        return usesOf(texts[text]).size();
    }

    int use(int text, int i, int what) {
        wrongIf(text < 0 || text > 7);
        List<Use> uses = usesOf(texts[text]);
        missingIf(i < 0 || i >= uses.size() || what < 0 || what > 4);
        Use use = uses.get(i);
        return new int[] {use.begin, use.end, use.term, use.ending, use.finding}[what];
    }

    boolean mend(int text, int i) {
        wrongIf(text < 0 || text > 7);
        List<Use> uses = usesOf(texts[text]);
        return i >= 0 && i < uses.size() && mendUse(text, uses.get(i));
    }

    private boolean mendUse(int text, Use use) {
        if (use.term == -1) {
            return false;
        }
        Term term = terms.get(use.term);
        Term good = terms.stream().filter(other -> other.thing == term.thing && other.kind == 0).findFirst().orElse(null);
        if (good == null || term.kind == 0 || term.kind == 2 || use.ending != -1 && (good.classes & 1 << use.ending) == 0) {
            return false;
        }
        String instead = good.row + (use.ending == -1 ? "" : endings.get(use.ending));
        String before = texts[text].substring(use.begin, use.end);
        String letters = before.replaceAll("[^A-Za-z]", "");
        if (letters.length() >= 2 && letters.equals(letters.toUpperCase())) {
            instead = instead.toUpperCase();
        } else if (Character.isUpperCase(before.charAt(0))) {
            instead = Character.toUpperCase(instead.charAt(0)) + instead.substring(1);
        }
        String after = texts[text].substring(0, use.begin) + instead + texts[text].substring(use.end);
        if (after.length() > 600) {
            return false;
        }
        texts[text] = after;
        mends++;
        return true;
    }

    int mendAll(int text) {
        wrongIf(text < 0 || text > 7);
        int done = 0;
        boolean going = true;
        while (going && done < 100) {
            going = false;
            for (Use use : usesOf(texts[text])) {
                going = going || mendUse(text, use);
            }
            done += going ? 1 : 0;
        }
        return done;
    }

    int count(int term) {
        missingIf(term < 0 || term >= terms.size());
        int many = 0;
        for (String text : texts) {
            many += (int) usesOf(text).stream().filter(use -> use.term == term).count();
        }
        return many;
    }

    /** All rows of one length are walked in their order, so that the first that closes is the least. */
    private boolean closes(List<Integer> row, int length) {
        int last = row.get(row.size() - 1);
        if (row.size() == length) {
            return definitions.get(last).contains(row.get(0));
        }
        for (int next : definitions.get(last)) {
            if (!row.contains(next)) {
                row.add(next);
                if (closes(row, length)) {
                    return true;
                }
                row.remove(row.size() - 1);
            }
        }
        return false;
    }

    private List<Integer> theRing() {
        for (int length = 1; length <= 40; length++) {
            for (int first = 0; first < 40; first++) {
                List<Integer> row = new ArrayList<>(List.of(first));
                if (closes(row, length)) {
                    return row;
                }
            }
        }
        return List.of();
    }

    int ring(int i) {
        List<Integer> row = theRing();
        if (i == -1) {
            return row.size();
        }
        missingIf(i < 0 || i >= row.size());
        return row.get(i);
    }

    private boolean explains(TreeSet<Integer> set, TreeSet<Integer> all) {
        TreeSet<Integer> explained = new TreeSet<>(set);
        boolean grew = true;
        while (grew) {
            grew = false;
            for (int thing : all) {
                if (!definitions.get(thing).isEmpty() && explained.containsAll(definitions.get(thing))) {
                    grew |= explained.add(thing);
                }
            }
        }
        return explained.equals(all);
    }

    long fewest() {
        TreeSet<Integer> all = new TreeSet<>();
        for (int thing = 0; thing < 40; thing++) {
            if (!definitions.get(thing).isEmpty()) {
                all.add(thing);
                all.addAll(definitions.get(thing));
            }
        }
        if (all.size() > 14) {
            return -1;
        }
        for (int many = 0; many <= all.size(); many++) {
            long least = leastOf(new ArrayList<>(all), all, new TreeSet<>(), 0, many);
            if (least != -1) {
                return least;
            }
        }
        throw new IllegalStateException("all of them explain all");
    }

    private long leastOf(List<Integer> list, TreeSet<Integer> all, TreeSet<Integer> set, int from, int many) {
        if (many == 0) {
            return explains(set, all) ? set.stream().mapToLong(thing -> 1L << thing).sum() : -1;
        }
        long least = -1;
        for (int i = from; i + many <= list.size(); i++) {
            set.add(list.get(i));
            long found = leastOf(list, all, set, i + 1, many - 1);
            if (found != -1 && (least == -1 || found < least)) {
                least = found;
            }
            set.remove(list.get(i));
        }
        return least;
    }

    long crossing(int text, int other) {
        wrongIf(text < 0 || text > 7 || other < 0 || other > 7);
        long things = 0;
        for (int thing = 0; thing < 40; thing++) {
            TreeSet<Integer> here = termsUsed(text, thing);
            TreeSet<Integer> there = termsUsed(other, thing);
            boolean both = !here.isEmpty() && !there.isEmpty();
            here.retainAll(there);
            things += both && here.isEmpty() ? 1L << thing : 0;
        }
        return things;
    }

    private TreeSet<Integer> termsUsed(int text, int thing) {
        TreeSet<Integer> used = new TreeSet<>();
        for (Use use : usesOf(texts[text])) {
            if (use.term != -1 && terms.get(use.term).thing == thing) {
                used.add(use.term);
            }
        }
        return used;
    }

    int total(int what) {
        missingIf(what < 0 || what > 4);
        int things = (int) terms.stream().map(term -> term.thing).distinct().count();
        return new int[] {endings.size(), terms.size(), waiting.length(), things, mends}[what];
    }

    private static void wrongIf(boolean wrong) {
        if (wrong) {
            throw new IllegalArgumentException();
        }
    }

    private static void missingIf(boolean missing) {
        if (missing) {
            throw new NoSuchElementException();
        }
    }
}
