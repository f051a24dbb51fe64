import java.util.ArrayList;
import java.util.NoSuchElementException;

/** A keeper of terms for works of many hands; what each call promises stands in the document. */
public final class TermKeeper {
    public static final int NONE = -1;

    private static final int GOOD = 0;
    private static final int BANNED = 1;
    private static final int SHORT = 2;
    private static final int LOOSE = 3;

    private static final int MOST_THINGS = 40;
    private static final int MOST_TERMS = 60;
    private static final int MOST_ENDINGS = 6;
    private static final int MOST_CLASSES = 63;
    private static final int MOST_NEIGHBOURS = 8;
    private static final int MOST_TEXTS = 8;
    private static final int MOST_BYTES = 600;
    private static final int BYTES_WRITTEN = 20;
    private static final int MOST_WAITING = 40;
    private static final int MOST_ENDING_LETTERS = 4;
    private static final int MOST_WORD_LETTERS = 12;
    private static final int MOST_TERM_WORDS = 3;
    private static final int MOST_MENDS = 100;
    private static final int MOST_EXPLAINED = 14;

    private static final int BLANK = 32;
    private static final int LINE_END = 10;

    private final Row waiting;
    private final Row[] texts;
    private final Glossary glossary;
    private final Definitions definitions;
    private final Uses found;
    private final Mender mender;

    public TermKeeper() {
        waiting = new Row(MOST_WAITING);
        texts = new Row[MOST_TEXTS];
        for (int i = 0; i < MOST_TEXTS; i++) {
            texts[i] = new Row(MOST_BYTES);
        }
        glossary = new Glossary();
        definitions = new Definitions();
        found = new Uses(glossary, definitions);
        mender = new Mender(glossary);
    }

    public int letter(int v) {
        if (v < 0 || v > 26) {
            return NONE;
        }
        return waiting.push(v == 26 ? BLANK : 'a' + v) ? waiting.size() : NONE;
    }

    public int ending() {
        int number = glossary.addEnding(waiting);
        waiting.shorten(0);
        return number;
    }

    public int term(int thing, int kind, int classes) throws IllegalArgumentException {
        needThing(thing);
        needKind(kind);
        if (classes < 0 || classes > MOST_CLASSES) {
            throw new IllegalArgumentException("no such classes");
        }
        int number = glossary.addTerm(waiting, thing, kind, classes);
        waiting.shorten(0);
        return number;
    }

    public int neighbour(int thing) throws IllegalArgumentException {
        needThing(thing);
        int many = glossary.addNeighbour(waiting, thing);
        waiting.shorten(0);
        return many;
    }

    public long define(int thing, long things) throws IllegalArgumentException {
        needThing(thing);
        if (things < 0 || things >= 1L << MOST_THINGS) {
            throw new IllegalArgumentException("bits of no thing");
        }
        return definitions.replaced(thing, things);
    }

    public boolean know(int thing, boolean known) throws IllegalArgumentException {
        needThing(thing);
        return definitions.madeKnown(thing, known);
    }

    public int kind(int term, int kind) throws NoSuchElementException, IllegalArgumentException {
        Term changed = needTerm(term);
        needKind(kind);
        int before = changed.kind;
        changed.kind = kind;
        return before;
    }

    public int about(int term, int what) throws NoSuchElementException {
        Term asked = needTerm(term);
        switch (what) {
            case 0:
                return asked.thing;
            case 1:
                return asked.kind;
            case 2:
                return asked.classes;
            case 3:
                return asked.words;
            case 4:
                return asked.letters();
            default:
                throw new NoSuchElementException("nothing such is told of a term");
        }
    }

    public int write(int text, int a, int b, int c, int d, int e) throws IllegalArgumentException {
        Row written = needText(text);
        if (written.size() > MOST_BYTES - BYTES_WRITTEN) {
            return NONE;
        }
        pushNumber(written, a);
        pushNumber(written, b);
        pushNumber(written, c);
        pushNumber(written, d);
        pushNumber(written, e);
        return written.size();
    }

    public int cut(int text, int n) throws IllegalArgumentException {
        Row shortened = needText(text);
        int before = shortened.size();
        if (n < 0 || n > before) {
            return NONE;
        }
        shortened.shorten(n);
        return before - n;
    }

    public int byteAt(int text, int k) throws IllegalArgumentException, NoSuchElementException {
        Row asked = needText(text);
        if (k == NONE) {
            return asked.size();
        }
        if (k < 0 || k >= asked.size()) {
            throw new NoSuchElementException("no such byte");
        }
        return asked.at(k);
    }

    public int uses(int text) throws IllegalArgumentException {
        found.read(needText(text));
        return found.size();
    }

    public int use(int text, int i, int what) throws IllegalArgumentException, NoSuchElementException {
        found.read(needText(text));
        if (i < 0 || i >= found.size()) {
            throw new NoSuchElementException("no such use");
        }
        switch (what) {
            case 0:
                return found.beginOf(i);
            case 1:
                return found.endOf(i);
            case 2:
                return found.termOf(i);
            case 3:
                return found.endingOf(i);
            case 4:
                return found.findingOf(i);
            default:
                throw new NoSuchElementException("nothing such is told of a use");
        }
    }

    public boolean mend(int text, int i) throws IllegalArgumentException {
        Row mended = needText(text);
        found.read(mended);
        return mender.mendsUse(mended, found, i);
    }

    public int mendAll(int text) throws IllegalArgumentException {
        Row mended = needText(text);
        for (int done = 0; done < MOST_MENDS; done++) {
            found.read(mended);
            if (!mender.mendsFirst(mended, found)) {
                return done;
            }
        }
        return MOST_MENDS;
    }

    public int count(int term) throws NoSuchElementException {
        needTerm(term);
        int many = 0;
        for (Row text : texts) {
            found.read(text);
            many += found.usesOf(term);
        }
        return many;
    }

    public int ring(int i) throws NoSuchElementException {
        definitions.findRing();
        if (i == NONE) {
            return definitions.ringSize();
        }
        if (i < 0 || i >= definitions.ringSize()) {
            throw new NoSuchElementException("no such thing of the ring");
        }
        return definitions.ringAt(i);
    }

    public long fewest() {
        return definitions.findFewest();
    }

    public long crossing(int text, int other) throws IllegalArgumentException {
        Row one = needText(text);
        Row another = needText(other);
        found.read(one);
        long things = found.things();
        long terms = found.terms();
        found.read(another);
        return things & found.things() & ~glossary.thingsOf(terms & found.terms());
    }

    public int total(int what) throws NoSuchElementException {
        switch (what) {
            case 0:
                return glossary.endingsHeld();
            case 1:
                return glossary.termsHeld();
            case 2:
                return waiting.size();
            case 3:
                return Long.bitCount(glossary.thingsOf(-1L));
            case 4:
                return mender.mendsEver();
            default:
                throw new NoSuchElementException("no such total");
        }
    }

    private static void needThing(int thing) {
        if (thing < 0 || thing >= MOST_THINGS) {
            throw new IllegalArgumentException("no such thing");
        }
    }

    private static void needKind(int kind) {
        if (kind < GOOD || kind > LOOSE) {
            throw new IllegalArgumentException("no such kind");
        }
    }

    private Term needTerm(int term) {
        if (!glossary.holdsTerm(term)) {
            throw new NoSuchElementException("no such term");
        }
        return glossary.termAt(term);
    }

    private Row needText(int text) {
        if (text < 0 || text >= texts.length) {
            throw new IllegalArgumentException("no such text");
        }
        return texts[text];
    }

    private static void pushNumber(Row row, int number) {
        for (int shift = 24; shift >= 0; shift -= 8) {
            row.push(number >>> shift);
        }
    }

    private static boolean isLetter(int sign) {
        return sign >= 'a' && sign <= 'z' || isGreat(sign);
    }

    private static boolean isGreat(int sign) {
        return sign >= 'A' && sign <= 'Z';
    }

    private static boolean endsSentence(int sign) {
        return sign == '.' || sign == '!' || sign == '?' || sign == ';';
    }

    /** Bytes one behind the other, no more than it was made for. */
    private static final class Row {
        private final byte[] bytes;
        private int size;

        Row(int most) {
            bytes = new byte[Math.max(most, 0)];
        }

        int size() {
            return size;
        }

        /** NONE where there is no byte, so that callers may look over both edges. */
        int at(int i) {
            return i >= 0 && i < size ? bytes[i] & 255 : NONE;
        }

        int smallAt(int i) {
            int sign = at(i);
            return isGreat(sign) ? sign + ('a' - 'A') : sign;
        }

        boolean letterAt(int i) {
            return isLetter(at(i));
        }

        boolean push(int sign) {
            if (size >= bytes.length) {
                return false;
            }
            bytes[size] = (byte) sign;
            size++;
            return true;
        }

        void shorten(int n) {
            if (n >= 0 && n < size) {
                size = n;
            }
        }

        /** The letters among the first bytes become great. */
        void greaten(int many) {
            for (int i = 0; i < many && i < size; i++) {
                if (bytes[i] >= 'a' && bytes[i] <= 'z') {
                    bytes[i] -= 'a' - 'A';
                }
            }
        }

        Row copied() {
            Row copy = new Row(size);
            for (int i = 0; i < size; i++) {
                copy.push(at(i));
            }
            return copy;
        }

        boolean sameAs(Row other) {
            return size == other.size && endOfForm(0, other) == size;
        }

        /** How many WORDS with one blank between it is; 0 if it is no row of a TERM. */
        int wordsOfTerm() {
            int words = 0;
            int letters = 0;
            for (int i = 0; i <= size; i++) {
                if (letterAt(i)) {
                    letters++;
                } else {
                    if (letters < 1 || letters > MOST_WORD_LETTERS) {
                        return 0;
                    }
                    words++;
                    letters = 0;
                }
            }
            return words <= MOST_TERM_WORDS ? words : 0;
        }

        /** Where a form that stands at this place ends; NONE if it doesn't stand there. */
        int endOfForm(int from, Row form) {
            for (int i = 0; i < form.size; i++) {
                int due = form.at(i);
                int sign = smallAt(from + i);
                boolean lineEndForBlank = due == BLANK && sign == LINE_END;
                if (sign != due && !lineEndForBlank) {
                    return NONE;
                }
            }
            return from + form.size;
        }

        /** False, and nothing changes, if there is no room for it. */
        boolean takesInstead(int begin, int end, Row instead) {
            if (begin < 0 || end < begin || end > size) {
                return false;
            }
            int after = size - (end - begin) + instead.size;
            if (after > bytes.length) {
                return false;
            }
            System.arraycopy(bytes, end, bytes, begin + instead.size, size - end);
            System.arraycopy(instead.bytes, 0, bytes, begin, instead.size);
            size = after;
            return true;
        }
    }

    private static final class Term {
        final Row row;
        final int words;
        final int thing;
        final int classes;
        int kind;

        Term(Row row, int words, int thing, int kind, int classes) {
            this.row = row;
            this.words = words;
            this.thing = thing;
            this.kind = kind;
            this.classes = classes;
        }

        int letters() {
            return row.size() - (words - 1);
        }

        boolean takesEnding(int number) {
            return (classes >> number & 1) != 0;
        }
    }

    private static final class Neighbour {
        final Row word;
        final int thing;

        Neighbour(Row word, int thing) {
            this.word = word;
            this.thing = thing;
        }
    }

    /** ENDINGS, TERMS and NEIGHBOURS as they were told. */
    private static final class Glossary {
        /** What wayAt tells of a place where no FORM of the TERM stands. */
        static final int NO_FORM = -2;

        private final ArrayList<Row> endings = new ArrayList<>();
        private final ArrayList<Term> terms = new ArrayList<>();
        private final ArrayList<Neighbour> neighbours = new ArrayList<>();

        int endingsHeld() {
            return endings.size();
        }

        int termsHeld() {
            return terms.size();
        }

        boolean holdsTerm(int number) {
            return number >= 0 && number < terms.size();
        }

        /** Of a number alone that holdsTerm says yes to. */
        Term termAt(int number) {
            return terms.get(number);
        }

        int addEnding(Row told) {
            boolean oneWord = told.wordsOfTerm() == 1;
            if (endings.size() >= MOST_ENDINGS || !oneWord || told.size() > MOST_ENDING_LETTERS) {
                return NONE;
            }
            endings.add(told.copied());
            return endings.size() - 1;
        }

        int addTerm(Row told, int thing, int kind, int classes) {
            int words = told.wordsOfTerm();
            if (terms.size() >= MOST_TERMS || words == 0) {
                return NONE;
            }
            terms.add(new Term(told.copied(), words, thing, kind, classes));
            return terms.size() - 1;
        }

        int addNeighbour(Row told, int thing) {
            if (told.wordsOfTerm() != 1) {
                return NONE;
            }
            int many = 0;
            for (int i = 0; i < neighbours.size(); i++) {
                Neighbour held = neighbours.get(i);
                if (held.thing == thing) {
                    if (held.word.sameAs(told)) {
                        return NONE;
                    }
                    many++;
                }
            }
            if (many >= MOST_NEIGHBOURS) {
                return NONE;
            }
            neighbours.add(new Neighbour(told.copied(), thing));
            return many + 1;
        }

        /** Bits of the THINGS of which this WORD of a TEXT is a NEIGHBOUR. */
        long thingsNear(Row text, int begin, int end) {
            long things = 0;
            for (int i = 0; i < neighbours.size(); i++) {
                Neighbour held = neighbours.get(i);
                if (text.endOfForm(begin, held.word) == end) {
                    things |= 1L << held.thing;
                }
            }
            return things;
        }

        /** Bits of the THINGS of these TERMS (bits, too). */
        long thingsOf(long numbers) {
            long things = 0;
            for (int i = 0; i < terms.size(); i++) {
                if ((numbers >> i & 1) != 0) {
                    things |= 1L << terms.get(i).thing;
                }
            }
            return things;
        }

        int goodTermOf(int thing) {
            for (int i = 0; i < terms.size(); i++) {
                Term held = terms.get(i);
                if (held.thing == thing && held.kind == GOOD) {
                    return i;
                }
            }
            return NONE;
        }

        /**
         * By which ENDING a FORM of the TERM stands at a WORD's begin: NONE by its row alone.
         * A last WORD of 12 LETTERS with an ENDING of 4 has 16, so no FORM is too long.
         */
        int wayAt(Row text, int from, Term term) {
            int behindRow = text.endOfForm(from, term.row);
            if (behindRow == NONE) {
                return NO_FORM;
            }
            if (!text.letterAt(behindRow)) {
                return NONE;
            }
            for (int i = 0; i < endings.size(); i++) {
                if (term.takesEnding(i)) {
                    int behind = text.endOfForm(behindRow, endings.get(i));
                    if (behind != NONE && !text.letterAt(behind)) {
                        return i;
                    }
                }
            }
            return NO_FORM;
        }

        /** The row of the TERM with its ENDING (or NONE) comes behind what the row has. */
        void pushForm(Row row, Term term, int ending) {
            for (int i = 0; i < term.row.size(); i++) {
                row.push(term.row.at(i));
            }
            if (ending >= 0 && ending < endings.size()) {
                Row behind = endings.get(ending);
                for (int i = 0; i < behind.size(); i++) {
                    row.push(behind.at(i));
                }
            }
        }
    }

    /** WORDS of the TEXT that was read last, and which THINGS they are NEIGHBOURS of. */
    private static final class Words {
        /** Between two WORDS stands at least one byte. */
        private static final int MOST_WORDS = MOST_BYTES / 2;

        private final Glossary glossary;
        private final int[] begins = new int[MOST_WORDS];
        private final int[] ends = new int[MOST_WORDS];
        private final int[] sentences = new int[MOST_WORDS];
        private final long[] near = new long[MOST_WORDS];
        private final int[] tally = new int[MOST_THINGS];
        private int size;
        private int talliedSentence;

        Words(Glossary glossary) {
            this.glossary = glossary;
        }

        int size() {
            return size;
        }

        int beginOf(int word) {
            return word >= 0 && word < size ? begins[word] : NONE;
        }

        int endOf(int word) {
            return word >= 0 && word < size ? ends[word] : NONE;
        }

        void read(Row text) {
            size = 0;
            talliedSentence = NONE;
            int sentence = 0;
            int begin = 0;
            for (int i = 0; i < text.size(); i++) {
                if (text.letterAt(i)) {
                    if (!text.letterAt(i - 1)) {
                        begin = i;
                    }
                    if (!text.letterAt(i + 1)) {
                        keepWord(begin, i + 1, sentence);
                    }
                } else if (endsSentence(text.at(i))) {
                    sentence++;
                }
            }
            for (int i = 0; i < size; i++) {
                near[i] = glossary.thingsNear(text, begins[i], ends[i]);
            }
        }

        private void keepWord(int begin, int end, int sentence) {
            if (size < MOST_WORDS) {
                begins[size] = begin;
                ends[size] = end;
                sentences[size] = sentence;
                size++;
            }
        }

        /** How many WORDS of the SENTENCE, but not those from first to last, are NEIGHBOURS of the THING. */
        int scoreOf(int thing, int first, int last) {
            if (thing < 0 || thing >= MOST_THINGS || first < 0 || last >= size) {
                return 0;
            }
            tallySentenceOf(first);
            int score = tally[thing];
            for (int i = first; i <= last; i++) {
                if ((near[i] >> thing & 1) != 0) {
                    score--;
                }
            }
            return score;
        }

        /** A SENTENCE is tallied once for all its USES, which keeps long ones cheap. */
        private void tallySentenceOf(int word) {
            int sentence = word >= 0 && word < size ? sentences[word] : NONE;
            if (sentence == talliedSentence) {
                return;
            }
            talliedSentence = sentence;
            for (int thing = 0; thing < MOST_THINGS; thing++) {
                tally[thing] = 0;
            }
            for (int i = 0; i < size; i++) {
                if (sentences[i] == sentence && near[i] != 0) {
                    for (int thing = 0; thing < MOST_THINGS; thing++) {
                        tally[thing] += (int) (near[i] >> thing & 1);
                    }
                }
            }
        }
    }

    /** USES of the TEXT that was read last. */
    private static final class Uses {
        private static final int MOST_USES = MOST_BYTES / 2;

        private final Glossary glossary;
        private final Definitions definitions;
        private final Words words;
        private final int[] ways = new int[MOST_TERMS];
        private final int[] begins = new int[MOST_USES];
        private final int[] ends = new int[MOST_USES];
        private final int[] terms = new int[MOST_USES];
        private final int[] endings = new int[MOST_USES];
        private final int[] findings = new int[MOST_USES];
        private int size;
        private long termsSeen;
        private long thingsSeen;
        private long thingsSpelled;

        Uses(Glossary glossary, Definitions definitions) {
            this.glossary = glossary;
            this.definitions = definitions;
            this.words = new Words(glossary);
        }

        int size() {
            return size;
        }

        int beginOf(int use) {
            return holds(use) ? begins[use] : NONE;
        }

        int endOf(int use) {
            return holds(use) ? ends[use] : NONE;
        }

        int termOf(int use) {
            return holds(use) ? terms[use] : NONE;
        }

        int endingOf(int use) {
            return holds(use) ? endings[use] : NONE;
        }

        int findingOf(int use) {
            return holds(use) ? findings[use] : NONE;
        }

        /** Bits of the TERMS that have USES. */
        long terms() {
            return termsSeen;
        }

        /** Bits of the THINGS that have USES. */
        long things() {
            return thingsSeen;
        }

        int usesOf(int term) {
            int many = 0;
            for (int i = 0; i < size; i++) {
                if (terms[i] == term) {
                    many++;
                }
            }
            return many;
        }

        boolean holds(int use) {
            return use >= 0 && use < size;
        }

        void read(Row text) {
            words.read(text);
            size = 0;
            termsSeen = 0;
            thingsSeen = 0;
            thingsSpelled = 0;
            int behind = 0;
            for (int word = 0; word < words.size(); word++) {
                if (words.beginOf(word) >= behind) {
                    int most = mostWordsAt(text, words.beginOf(word));
                    if (most > 0) {
                        keepUse(word, most);
                        behind = words.endOf(word + most - 1);
                    }
                }
            }
        }

        /** How many WORDS the longest FORM there has (0: none stands there); ways has those of it alone. */
        private int mostWordsAt(Row text, int from) {
            int held = Math.min(glossary.termsHeld(), MOST_TERMS);
            int most = 0;
            for (int i = 0; i < held; i++) {
                Term term = glossary.termAt(i);
                ways[i] = glossary.wayAt(text, from, term);
                if (ways[i] != Glossary.NO_FORM) {
                    most = Math.max(most, term.words);
                }
            }
            for (int i = 0; i < held; i++) {
                if (glossary.termAt(i).words != most) {
                    ways[i] = Glossary.NO_FORM;
                }
            }
            return most;
        }

        private void keepUse(int word, int most) {
            if (size >= MOST_USES) {
                return;
            }
            int last = word + most - 1;
            int term = leastTermOf(thingMeant(word, last));
            begins[size] = words.beginOf(word);
            ends[size] = words.endOf(last);
            terms[size] = term;
            endings[size] = term >= 0 && term < MOST_TERMS ? ways[term] : NONE;
            findings[size] = findingNow(term);
            size++;
            see(term);
        }

        /** Of the THINGS that the FORM may mean that with the highest score; NONE if two share it. */
        private int thingMeant(int first, int last) {
            long things = thingsPossible();
            int meant = NONE;
            int highest = NONE;
            for (int thing = 0; thing < MOST_THINGS; thing++) {
                if ((things >> thing & 1) != 0) {
                    int score = words.scoreOf(thing, first, last);
                    if (score > highest) {
                        highest = score;
                        meant = thing;
                    } else if (score == highest) {
                        meant = NONE;
                    }
                }
            }
            return meant;
        }

        private long thingsPossible() {
            int held = Math.min(glossary.termsHeld(), MOST_TERMS);
            long things = 0;
            for (int i = 0; i < held; i++) {
                if (ways[i] != Glossary.NO_FORM) {
                    things |= 1L << glossary.termAt(i).thing;
                }
            }
            return things;
        }

        private int leastTermOf(int thing) {
            int held = Math.min(glossary.termsHeld(), MOST_TERMS);
            for (int i = 0; i < held; i++) {
                if (ways[i] != Glossary.NO_FORM && glossary.termAt(i).thing == thing) {
                    return i;
                }
            }
            return NONE;
        }

        private int findingNow(int number) {
            if (!glossary.holdsTerm(number)) {
                return 1;
            }
            Term term = glossary.termAt(number);
            if (term.kind == BANNED) {
                return 2;
            }
            if (term.kind == SHORT && (thingsSpelled >> term.thing & 1) == 0) {
                return 3;
            }
            return definitions.explainedBy(term.thing, thingsSeen) ? 0 : 4;
        }

        private void see(int number) {
            if (!glossary.holdsTerm(number)) {
                return;
            }
            Term term = glossary.termAt(number);
            termsSeen |= 1L << number;
            thingsSeen |= 1L << term.thing;
            if (term.kind == GOOD) {
                thingsSpelled |= 1L << term.thing;
            }
        }
    }

    /** Puts GOOD TERMS in the place of BANNED and LOOSE ones. */
    private static final class Mender {
        private final Glossary glossary;
        private final Row instead = new Row(MOST_WAITING + MOST_ENDING_LETTERS);
        private int mends;

        Mender(Glossary glossary) {
            this.glossary = glossary;
        }

        int mendsEver() {
            return mends;
        }

        boolean mendsFirst(Row text, Uses found) {
            for (int i = 0; i < found.size(); i++) {
                if (mendsUse(text, found, i)) {
                    return true;
                }
            }
            return false;
        }

        /** False, and nothing changes, if it can't be. */
        boolean mendsUse(Row text, Uses found, int use) {
            int number = found.termOf(use);
            if (!glossary.holdsTerm(number)) {
                return false;
            }
            Term term = glossary.termAt(number);
            int goodNumber = glossary.goodTermOf(term.thing);
            boolean mendable = term.kind == BANNED || term.kind == LOOSE;
            if (!mendable || !glossary.holdsTerm(goodNumber)) {
                return false;
            }
            Term good = glossary.termAt(goodNumber);
            int ending = found.endingOf(use);
            if (ending != NONE && !good.takesEnding(ending)) {
                return false;
            }
            int begin = found.beginOf(use);
            int end = found.endOf(use);
            instead.shorten(0);
            glossary.pushForm(instead, good, ending);
            instead.greaten(greatBytes(text, begin, end));
            if (!text.takesInstead(begin, end, instead)) {
                return false;
            }
            mends++;
            return true;
        }

        /** How many bytes of what comes instead are to be great, from the first on. */
        private int greatBytes(Row text, int begin, int end) {
            int letters = 0;
            int great = 0;
            for (int i = begin; i < end; i++) {
                if (text.letterAt(i)) {
                    letters++;
                    if (isGreat(text.at(i))) {
                        great++;
                    }
                }
            }
            if (letters >= 2 && great == letters) {
                return instead.size();
            }
            return isGreat(text.at(begin)) ? 1 : 0;
        }
    }

    /** DEFINITIONS of THINGS, and which THINGS are KNOWN. */
    private static final class Definitions {
        private final long[] bits = new long[MOST_THINGS];
        private long known;
        private final int[] steps = new int[MOST_THINGS];
        private final int[] ringRow = new int[MOST_THINGS];
        private int ringLength;
        private final int[] members = new int[MOST_EXPLAINED];
        private final int[] needs = new int[MOST_EXPLAINED];
        private int memberCount;

        long replaced(int thing, long things) {
            if (thing < 0 || thing >= MOST_THINGS) {
                return 0;
            }
            long before = bits[thing];
            bits[thing] = things;
            return before;
        }

        boolean madeKnown(int thing, boolean now) {
            boolean before = (known >> thing & 1) != 0;
            known = now ? known | 1L << thing : known & ~(1L << thing);
            return before;
        }

        /** Whether all DEFINITIONS of a THING are KNOWN or among those seen. */
        boolean explainedBy(int thing, long seen) {
            return thing < 0 || thing >= MOST_THINGS || (bits[thing] & ~(seen | known)) == 0;
        }

        int ringSize() {
            return ringLength;
        }

        int ringAt(int i) {
            return i >= 0 && i < ringLength ? ringRow[i] : NONE;
        }

        /** Of the shortest rings the least one begins with the least THING that any of them has. */
        void findRing() {
            int start = NONE;
            ringLength = 0;
            for (int thing = 0; thing < MOST_THINGS; thing++) {
                int length = stepsBackTo(thing);
                if (length > 0 && (start == NONE || length < ringLength)) {
                    start = thing;
                    ringLength = length;
                }
            }
            if (start != NONE) {
                stepsBackTo(start);
                walkRing(start);
            }
        }

        /** Fills steps: how many lead from each THING to this one (0: no way); tells its own. */
        private int stepsBackTo(int target) {
            for (int thing = 0; thing < MOST_THINGS; thing++) {
                steps[thing] = 0;
            }
            long front = 1L << target;
            for (int step = 1; step <= MOST_THINGS && front != 0; step++) {
                long next = 0;
                for (int thing = 0; thing < MOST_THINGS; thing++) {
                    if (steps[thing] == 0 && (bits[thing] & front) != 0) {
                        steps[thing] = step;
                        next |= 1L << thing;
                    }
                }
                front = next;
            }
            return target >= 0 && target < MOST_THINGS ? steps[target] : 0;
        }

        private void walkRing(int start) {
            int here = start;
            for (int i = 0; i < ringLength && i < MOST_THINGS; i++) {
                ringRow[i] = here;
                here = leastNext(here, ringLength - i - 1);
            }
        }

        /** The least THING that this one goes to and that is so many steps from the ring's begin. */
        private int leastNext(int here, int left) {
            if (here < 0 || here >= MOST_THINGS) {
                return NONE;
            }
            for (int thing = 0; thing < MOST_THINGS; thing++) {
                if ((bits[here] >> thing & 1) != 0 && steps[thing] == left) {
                    return thing;
                }
            }
            return NONE;
        }

        /** Sets in the order of their bits, so that the first of the fewest is the least. */
        long findFewest() {
            if (!gatherMembers()) {
                return -1L;
            }
            int best = (1 << memberCount) - 1;
            for (int set = 0; set < 1 << memberCount; set++) {
                if (Integer.bitCount(set) < Integer.bitCount(best) && explainsAll(set)) {
                    best = set;
                }
            }
            long things = 0;
            for (int i = 0; i < memberCount; i++) {
                if ((best >> i & 1) != 0) {
                    things |= 1L << members[i];
                }
            }
            return things;
        }

        /** False: there are too many THINGS that have DEFINITIONS or are in some. */
        private boolean gatherMembers() {
            long all = 0;
            for (int thing = 0; thing < MOST_THINGS; thing++) {
                if (bits[thing] != 0) {
                    all |= bits[thing] | 1L << thing;
                }
            }
            memberCount = 0;
            if (Long.bitCount(all) > MOST_EXPLAINED) {
                return false;
            }
            for (int thing = 0; thing < MOST_THINGS && memberCount < MOST_EXPLAINED; thing++) {
                if ((all >> thing & 1) != 0) {
                    members[memberCount] = thing;
                    memberCount++;
                }
            }
            for (int i = 0; i < memberCount; i++) {
                needs[i] = membersAmong(bits[members[i]]);
            }
            return true;
        }

        /** The bits of THINGS as bits of places among the members. */
        private int membersAmong(long things) {
            int places = 0;
            for (int i = 0; i < memberCount; i++) {
                if ((things >> members[i] & 1) != 0) {
                    places |= 1 << i;
                }
            }
            return places;
        }

        private boolean explainsAll(int set) {
            int explained = set;
            for (int round = 0; round < memberCount; round++) {
                int before = explained;
                for (int i = 0; i < memberCount; i++) {
                    if (needs[i] != 0 && (needs[i] & ~explained) == 0) {
                        explained |= 1 << i;
                    }
                }
                if (explained == before) {
                    break;
                }
            }
            return explained == (1 << memberCount) - 1;
        }
    }
}
