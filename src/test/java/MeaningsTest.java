/** Promise 14: words of two meanings are told apart by their neighbours; the findings in their order. */
public final class MeaningsTest {
    private static final Check CHECK = new Check("MeaningsTest");
    private static final int GOOD = 0;
    private static final int BANNED = 1;
    private static final int SHORT = 2;
    private static final int LOOSE = 3;

    public static void main(String[] args) {
        moreThanEachOther();
        moreThanEachOtherOfThree();
        eachWordCounts();
        wholeWordsAlone();
        outsideOfTheUse();
        fourBytesEndASentence();
        noOtherByteDoes();
        eachItsOwnSentence();
        firstAndLastThing();
        doubtfulIsOfNoTerm();
        doubtfulIsFirst();
        bannedIsSecond();
        shortIsThird();
        goodAheadOfAShort();
        noneAheadThatCounts();
        undefinedIsFourth();
        usesAheadDefine();
        knownDefine();
        definedByItself();
        noFinding();
        CHECK.end();
    }

    /** Term 0 is of no meaning here; bank is 1 of thing 1 (money), 2 of thing 2 (river, water), 3 of thing 2. */
    private static Told bank() {
        Told told = new Told();
        told.ending("s");
        told.term("other", 0, GOOD, 0);
        told.term("bank", 1, GOOD, 1);
        told.term("bank", 2, GOOD, 1);
        told.term("bank", 2, BANNED, 1);
        told.neighbour("money", 1);
        told.neighbour("river", 2);
        told.neighbour("water", 2);
        told.neighbour("river", 3);
        return told;
    }

    private static void moreThanEachOther() {
        CHECK.sentence("==== 2: the THING with more than each other one; if there is none, the USE is DOUBTFUL");
        Told told = bank();
        CHECK.due("one to none", told.uses(0, "money bank"), "6-10:1/-1!0");
        CHECK.due("none to one", told.uses(0, "banks river"), "0-5:2/0!0");
        CHECK.due("none to none", told.uses(0, "bank"), "0-4:-1/-1!1");
        CHECK.due("one to one", told.uses(0, "bank money river"), "0-4:-1/-1!1");
        CHECK.due("one to two", told.uses(0, "bank money river water"), "0-4:2/-1!0");
        CHECK.due("two to two", told.uses(0, "money bank money river water"), "6-10:-1/-1!1");
        CHECK.due("three to two", told.uses(0, "money bank money river water money"), "6-10:1/-1!0");
    }

    private static void moreThanEachOtherOfThree() {
        CHECK.sentence("==== 2: the THING with more than each other one (of three)");
        Told told = new Told();
        told.term("jam", 4, BANNED, 0);
        told.term("jam", 6, GOOD, 0);
        told.term("jam", 5, GOOD, 0);
        told.neighbour("road", 4);
        told.neighbour("road", 5);
        told.neighbour("bread", 6);
        told.neighbour("car", 4);
        told.neighbour("cup", 5);
        CHECK.due("the first two share the most", told.uses(0, "road jam"), "5-8:-1/-1!1");
        CHECK.due("all share it", told.uses(0, "road jam bread"), "5-8:-1/-1!1");
        CHECK.due("the last has more", told.uses(0, "road jam bread bread"), "5-8:1/-1!0");
        CHECK.due("the first has more", told.uses(0, "road jam car"), "5-8:0/-1!2");
        CHECK.due("the second has more", told.uses(0, "road jam cup"), "5-8:2/-1!0");
        CHECK.due("the first and the last share the most", told.uses(0, "car jam bread"), "4-7:-1/-1!1");
        CHECK.due("the last two share the most", told.uses(0, "cup jam bread"), "4-7:-1/-1!1");
    }

    private static void eachWordCounts() {
        CHECK.sentence("==== 2: how many WORDS of the same SENTENCE .. are NEIGHBOURS of it");
        Told told = bank();
        CHECK.due("one word twice", told.uses(0, "bank water water money"), "0-4:2/-1!0");
        CHECK.due("ahead and behind", told.uses(0, "money bank money river"), "6-10:1/-1!0");
        CHECK.due("far off", told.uses(0, "bank" + ", other".repeat(3) + ", money"), "0-4:1/-1!0 6-11:0/-1!0 13-18:0/-1!0 20-25:0/-1!0");
        told.text(0, "bank " + "money ".repeat(99) + "a");
        CHECK.due("a full text", told.useAt(0, 0), "0-4:1/-1!0");
    }

    private static void wholeWordsAlone() {
        CHECK.sentence("==== 2: WORDS .. are NEIGHBOURS of it");
        Told told = bank();
        CHECK.due("more than one", told.uses(0, "bank rivers riverx driver"), "0-4:-1/-1!1");
        CHECK.due("less than one", told.uses(0, "bank rive iver"), "0-4:-1/-1!1");
        CHECK.due("not apart", told.uses(0, "bank mon-ey"), "0-4:-1/-1!1");
        CHECK.due("signs beside it", told.uses(0, "bank (money)"), "0-4:1/-1!0");
    }

    private static void outsideOfTheUse() {
        CHECK.sentence("==== 2: WORDS of the same SENTENCE, outside of the USE");
        Told told = new Told();
        told.term("river bank", 1, GOOD, 0);
        told.term("river bank", 2, GOOD, 0);
        told.neighbour("river", 1);
        told.neighbour("bank", 1);
        told.neighbour("sea", 2);
        CHECK.due("its own words don't count", told.uses(0, "river bank"), "0-10:-1/-1!1");
        CHECK.due("one outside", told.uses(0, "river bank sea"), "0-10:1/-1!0");
        CHECK.due("those of another use do", told.uses(0, "river bank river bank sea"), "0-10:0/-1!0 11-21:0/-1!0");
        CHECK.due("the same word outside does", told.uses(0, "river, river bank"), "7-17:0/-1!0");
    }

    private static void fourBytesEndASentence() {
        CHECK.sentence("==== 2: A SENTENCE ends at each of the four bytes . and ! and ? and ; (46, 33, 63, 59)");
        for (int stop : new int[] {46, 33, 63, 59}) {
            Told told = bank();
            told.text(0, "river" + (char) stop + "bank" + (char) stop + "money");
            CHECK.due("on both sides " + stop, told.allUses(0), "6-10:-1/-1!1");
            told.text(0, "river" + (char) stop + "bank money");
            CHECK.due("ahead " + stop, told.allUses(0), "6-10:1/-1!0");
            told.text(0, "money bank" + (char) stop + "river" + (char) stop);
            CHECK.due("behind " + stop, told.allUses(0), "6-10:1/-1!0");
        }
    }

    private static void noOtherByteDoes() {
        CHECK.sentence("==== 2: the four bytes (and no other)");
        int[] others = {0, 9, 10, 13, 32, 34, 44, 45, 47, 58, 60, 62, 64, 46 + 128, 33 + 128, 63 + 128, 59 + 128, 255};
        Told told = bank();
        for (int other : others) {
            told.text(0, "money.river" + (char) other + "bank");
            CHECK.due("byte " + other, told.ofAll(0, 2), 2);
        }
        told.text(0, "river\n\nbank");
        CHECK.due("an empty line", told.ofAll(0, 2), 2);
    }

    private static void eachItsOwnSentence() {
        CHECK.sentence("==== 2: WORDS of the same SENTENCE");
        Told told = bank();
        CHECK.due("each its own", told.uses(0, "money bank. bank river? a bank a; water banks"),
                "6-10:1/-1!0 12-16:2/-1!0 26-30:-1/-1!1 40-45:2/0!0");
        CHECK.due("empty ones between", told.uses(0, "money bank..!bank; river"), "6-10:1/-1!0 13-17:-1/-1!1");
        CHECK.due("two in one", told.uses(0, "bank river bank"), "0-4:2/-1!0 11-15:2/-1!0");
    }

    private static void firstAndLastThing() {
        CHECK.sentence("==== 2: the score of a THING (0 to 39)");
        Told told = new Told();
        told.term("key", 0, GOOD, 0);
        told.term("key", 39, GOOD, 0);
        told.neighbour("door", 0);
        told.neighbour("piano", 39);
        told.text(0, "door key. door door key; piano key? piano piano key! key");
        CHECK.due("sentence by sentence", told.ofAll(0, 2), "0 0 1 1 -1");
    }

    private static void doubtfulIsOfNoTerm() {
        CHECK.sentence("==== 2: the USE is DOUBTFUL, of no TERM; (DOUBTFUL USES are of no THING.)");
        Told told = bank();
        told.term("tea", 9, GOOD, 0);
        told.term("bk", 1, SHORT, 0);
        told.define(9, 1L << 1);
        CHECK.due("no term, no ending", told.uses(0, "banks"), "0-5:-1/-1!1");
        CHECK.due("no thing's use ahead", told.uses(0, "bank. tea"), "0-4:-1/-1!1 6-9:4/-1!4");
        CHECK.due("no good term's use ahead", told.uses(0, "bank. bk"), "0-4:-1/-1!1 6-8:5/-1!3");
        CHECK.due("told apart, it is one", told.uses(0, "money bank. bk tea"), "6-10:1/-1!0 12-14:5/-1!0 15-18:4/-1!0");
    }

    private static void doubtfulIsFirst() {
        CHECK.sentence("==== 2: FINDINGS, the first that is so: 1 it is DOUBTFUL");
        Told told = new Told();
        told.term("jam", 1, BANNED, 0);
        told.term("jam", 2, BANNED, 0);
        told.define(1, 8);
        told.define(2, 8);
        CHECK.due("both banned", told.uses(0, "jam"), "0-3:-1/-1!1");
        told.kind(0, SHORT);
        told.kind(1, SHORT);
        CHECK.due("both short", told.allUses(0), "0-3:-1/-1!1");
    }

    private static void bannedIsSecond() {
        CHECK.sentence("==== 2: 2 its TERM is BANNED");
        Told told = new Told();
        told.term("puss", 0, BANNED, 0);
        told.define(0, 2);
        CHECK.due("ahead of undefined", told.uses(0, "puss"), "0-4:0/-1!2");
        told.define(0, 0);
        CHECK.due("without definitions", told.allUses(0), "0-4:0/-1!2");
        told.kind(0, LOOSE);
        CHECK.due("loose", told.allUses(0), "0-4:0/-1!0");
    }

    private static void shortIsThird() {
        CHECK.sentence("==== 2: 3 its TERM is SHORT, and no USE ahead of it in the TEXT is of a GOOD TERM of its THING");
        for (int thing : new int[] {0, 1, 39}) {
            Told told = new Told();
            told.term("db", thing, SHORT, 0);
            told.define(thing, 1L << 2);
            CHECK.due("ahead of undefined", told.uses(0, "db"), "0-2:0/-1!3");
            told.term("data base", thing, GOOD, 0);
            CHECK.due("then undefined", told.uses(0, "data base db"), "0-9:1/-1!4 10-12:0/-1!4");
            told.define(thing, 0);
            CHECK.due("then none", told.allUses(0), "0-9:1/-1!0 10-12:0/-1!0");
            CHECK.due("none ahead", told.uses(0, "db"), "0-2:0/-1!3");
        }
    }

    private static void goodAheadOfAShort() {
        CHECK.sentence("==== 2: no USE ahead of it in the TEXT is of a GOOD TERM of its THING");
        Told told = new Told();
        told.ending("s");
        told.term("db", 39, SHORT, 0);
        told.term("data base", 39, GOOD, 1);
        told.term("store", 39, GOOD, 0);
        CHECK.due("behind it doesn't count", told.uses(0, "db data base db"), "0-2:0/-1!3 3-12:1/-1!0 13-15:0/-1!0");
        CHECK.due("in another sentence", told.uses(0, "data base. x; db"), "0-9:1/-1!0 14-16:0/-1!0");
        CHECK.due("with an ending", told.uses(0, "data bases db"), "0-10:1/0!0 11-13:0/-1!0");
        CHECK.due("any good term", told.uses(0, "store db db"), "0-5:2/-1!0 6-8:0/-1!0 9-11:0/-1!0");
    }

    private static void noneAheadThatCounts() {
        CHECK.sentence("==== 2: of a GOOD TERM of its THING (and of its TEXT)");
        Told told = new Told();
        told.term("db", 1, SHORT, 0);
        told.term("set", 2, GOOD, 0);
        told.term("base", 1, GOOD, 0);
        told.text(1, "base");
        CHECK.due("of another thing", told.uses(0, "set db"), "0-3:1/-1!0 4-6:0/-1!3");
        CHECK.due("itself", told.uses(0, "db db"), "0-2:0/-1!3 3-5:0/-1!3");
        CHECK.due("of another text", told.uses(2, "db"), "0-2:0/-1!3");
        String[] due = {"0-4:2/-1!0 5-7:0/-1!0", "0-4:2/-1!2 5-7:0/-1!3", "0-4:2/-1!3 5-7:0/-1!3", "0-4:2/-1!0 5-7:0/-1!3"};
        for (int kind = 0; kind < 4; kind++) {
            told.kind(2, kind);
            CHECK.due("of kind " + kind, told.uses(0, "base db"), due[kind]);
        }
    }

    private static void undefinedIsFourth() {
        CHECK.sentence("==== 2: 4 its THING is not DEFINED there: it has DEFINITIONS, and some THING in them has no USE ahead");
        Told told = new Told();
        told.term("cat", 0, GOOD, 0);
        told.term("animal", 1, GOOD, 0);
        told.term("fur", 39, GOOD, 0);
        CHECK.due("it has none", told.uses(0, "cat"), "0-3:0/-1!0");
        told.define(0, 1L << 1 | 1L << 39);
        told.text(0, "cat animal cat fur cat");
        CHECK.due("all ahead", told.ofAll(0, 4), "4 0 4 0 0");
        told.text(0, "fur cat animal cat");
        CHECK.due("the other one first", told.ofAll(0, 4), "0 4 0 0");
        told.kind(0, LOOSE);
        CHECK.due("of a loose one", told.ofAll(0, 4), "0 4 0 0");
        told.define(0, 1L << 20);
        CHECK.due("by a thing without terms", told.ofAll(0, 4), "0 4 0 4");
        told.define(0, 0);
        CHECK.due("none again", told.ofAll(0, 4), "0 0 0 0");
    }

    private static void usesAheadDefine() {
        CHECK.sentence("==== 2: has no USE ahead of it in the TEXT");
        Told told = new Told();
        told.term("cat", 0, GOOD, 0);
        told.term("animal", 1, GOOD, 0);
        told.define(0, 1L << 1);
        told.define(1, 1L << 5);
        CHECK.due("behind it doesn't count", told.uses(0, "cat animal"), "0-3:0/-1!4 4-10:1/-1!4");
        CHECK.due("undefined itself, it counts", told.uses(0, "animal. cat"), "0-6:1/-1!4 8-11:0/-1!0");
        told.text(1, "animal");
        CHECK.due("of another text", told.uses(0, "cat"), "0-3:0/-1!4");
        for (int kind = 1; kind < 4; kind++) {
            told.kind(1, kind);
            told.text(0, "animal cat");
            CHECK.due("of kind " + kind, told.use(0, 1, 4), 0);
        }
    }

    private static void knownDefine() {
        CHECK.sentence("==== 2: nor is KNOWN (a THING that all know, told so)");
        Told told = new Told();
        told.term("cat", 0, GOOD, 0);
        told.define(0, 1L << 1 | 1L << 39);
        told.text(0, "cat");
        told.know(1, true);
        CHECK.due("one of two", told.use(0, 0, 4), 4);
        told.know(39, true);
        CHECK.due("both", told.use(0, 0, 4), 0);
        told.know(1, false);
        CHECK.due("one no more", told.use(0, 0, 4), 4);
        told.term("fur", 1, GOOD, 0);
        told.text(0, "fur cat");
        CHECK.due("one known, one ahead", told.ofAll(0, 4), "0 0");
        told.know(39, false);
        told.know(0, true);
        CHECK.due("that it is known itself doesn't count", told.ofAll(0, 4), "0 4");
    }

    private static void definedByItself() {
        CHECK.sentence("6: (a THING's own bit, too, as it is told), ==== 2: some THING in them has no USE ahead");
        Told told = new Told();
        told.term("cat", 0, GOOD, 0);
        told.define(0, 1);
        CHECK.due("by itself", told.uses(0, "cat cat"), "0-3:0/-1!4 4-7:0/-1!0");
        told.know(0, true);
        CHECK.due("known", told.allUses(0), "0-3:0/-1!0 4-7:0/-1!0");
    }

    private static void noFinding() {
        CHECK.sentence("==== 2: 0 none");
        Told told = new Told();
        told.term("cat", 0, GOOD, 0);
        told.term("moggy", 0, LOOSE, 0);
        told.term("ct", 0, SHORT, 0);
        CHECK.due("good, loose, short", told.uses(0, "cat moggy ct"), "0-3:0/-1!0 4-9:1/-1!0 10-12:2/-1!0");
    }
}
