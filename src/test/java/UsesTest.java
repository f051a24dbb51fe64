import java.util.NoSuchElementException;

/** Promises 13, 14, 17 and 20: uses, their terms, endings and findings. */
public final class UsesTest {
    private static final Check CHECK = new Check("UsesTest");
    private static final Class<NoSuchElementException> MISSING = NoSuchElementException.class;
    private static final int GOOD = 0;
    private static final int BANNED = 1;
    private static final int SHORT = 2;
    private static final int LOOSE = 3;

    public static void main(String[] args) {
        wholeWords();
        together();
        longestFirst();
        formsByEndings();
        longForms();
        laterEndings();
        leastTerm();
        neighboursTellApart();
        neighboursOfTheSentence();
        neighboursOfTheFirstAndLastThing();
        neighboursOutside();
        doubtful();
        findingsInOrder();
        shortsSpelledOut();
        defined();
        missing();
        counted();
        crossings();
        fullText();
        CHECK.end();
    }

    private static void wholeWords() {
        Told told = new Told();
        told.term("cat", 0, GOOD, 0);
        told.text(0, "cat Cat,cAT cats scat cat1cat\0" + (char) 200 + "cat");
        CHECK.due("whole words alone", told.uses(0), "0-3:0/-1!0 4-7:0/-1!0 8-11:0/-1!0 22-25:0/-1!0 26-29:0/-1!0 31-34:0/-1!0");
        told.text(0, "@cat[`cat{");
        CHECK.due("signs beside the letters", told.keeper.uses(0), 2);
        told.text(0, "dog");
        CHECK.due("none", told.keeper.uses(0), 0);
        told.term("az", 0, GOOD, 0);
        told.text(0, "AZ Zaz aZ");
        CHECK.due("the first and the last letter", told.uses(0), "0-2:1/-1!0 7-9:1/-1!0");
    }

    private static void together() {
        Told told = new Told();
        told.term("red house", 0, GOOD, 0);
        String[] apart = {"red  house", "red\n\nhouse", "red \nhouse", "red, house", "red-house", "red\thouse", "redhouse", "red. house", "red", "house"};
        for (String signs : apart) {
            told.text(0, signs);
            CHECK.due("apart: " + signs, told.keeper.uses(0), 0);
        }
        told.text(0, "red house RED\nHouse red red house");
        CHECK.due("together", told.uses(0), "0-9:0/-1!0 10-19:0/-1!0 24-33:0/-1!0");
    }

    private static void longestFirst() {
        Told told = new Told();
        told.term("a", 0, GOOD, 0);
        told.term("a b", 1, GOOD, 0);
        told.term("a b c", 2, GOOD, 0);
        told.term("c", 3, GOOD, 0);
        told.term("b c", 4, GOOD, 0);
        told.text(0, "a b c");
        CHECK.due("three words", told.uses(0), "0-5:2/-1!0");
        told.text(0, "a b  c");
        CHECK.due("two, then one", told.uses(0), "0-3:1/-1!0 5-6:3/-1!0");
        told.text(0, "a a b b c");
        CHECK.due("from the left", told.uses(0), "0-1:0/-1!0 2-5:1/-1!0 6-9:4/-1!0");
        told.text(0, "a b a b c");
        CHECK.due("the next begins behind it", told.uses(0), "0-3:1/-1!0 4-9:2/-1!0");
    }

    private static void formsByEndings() {
        Told told = new Told();
        told.ending("s");
        told.ending("es");
        told.ending("s");
        told.term("box", 0, GOOD, 2);
        told.term("hen house", 1, GOOD, 5);
        told.term("ox", 2, GOOD, 4);
        told.term("boxe", 3, GOOD, 0);
        told.text(0, "box boxs BOXES boxeses");
        CHECK.due("by its classes alone", told.uses(0), "0-3:0/-1!0 9-14:0/1!0");
        told.text(0, "hen houses. hens house. hens houses");
        CHECK.due("behind the last word alone", told.uses(0), "0-10:1/0!0");
        told.text(0, "oxs");
        CHECK.due("by the third", told.uses(0), "0-3:2/2!0");
        told.text(0, "boxe");
        CHECK.due("row alone", told.uses(0), "0-4:3/-1!0");
    }

    private static void longForms() {
        Told told = new Told();
        told.ending("ness");
        told.term("abcdefghijkl", 0, GOOD, 1);
        told.text(0, "abcdefghijklness abcdefghijklnesss");
        CHECK.due("sixteen letters", told.uses(0), "0-16:0/0!0");
    }

    private static void laterEndings() {
        Told told = new Told();
        told.term("cat", 0, GOOD, 2);
        told.text(0, "cats");
        told.ending("x");
        CHECK.due("not taken yet", told.keeper.uses(0), 0);
        told.ending("s");
        CHECK.due("told behind the term", told.uses(0), "0-4:0/1!0");
    }

    private static void leastTerm() {
        Told told = new Told();
        told.ending("s");
        told.term("cats", 0, BANNED, 0);
        told.term("cat", 0, GOOD, 1);
        told.term("cats", 0, LOOSE, 0);
        told.text(0, "cats cat");
        CHECK.due("of one thing the least number", told.uses(0), "0-4:0/-1!2 5-8:1/-1!0");
    }

    private static void neighboursTellApart() {
        Told told = bank();
        told.text(0, "bank by the river. MONEY in a bank. Bank.");
        CHECK.due("told apart", told.uses(0), "0-4:2/-1!0 30-34:1/-1!0 36-40:-1/-1!1");
        told.text(0, "bank river water water money money");
        CHECK.due("each word counts", told.uses(0), "0-4:2/-1!0");
        told.text(0, "bank river rivers riverx money");
        CHECK.due("whole neighbours alone, as many of each", told.uses(0), "0-4:-1/-1!1");
    }

    /** Term 0 is of no meaning here; bank is 1 of thing 1 (money), 2 of thing 2 (river, water), 3 of thing 2. */
    private static Told bank() {
        Told told = new Told();
        told.ending("s");
        told.term("other", 0, GOOD, 0);
        told.term("bank", 1, GOOD, 1);
        told.term("bank", 2, GOOD, 1);
        told.term("bank", 2, BANNED, 1);
        told.neighbour("money", 1);
        told.neighbour("river", 2);
        told.neighbour("water", 2);
        told.neighbour("river", 3);
        return told;
    }

    private static void neighboursOfTheSentence() {
        Told told = bank();
        String stops = ".!?;";
        for (int i = 0; i < 4; i++) {
            told.text(0, "river" + stops.charAt(i) + "bank" + stops.charAt(i) + "money");
            CHECK.due("a stop " + stops.charAt(i), told.uses(0), "6-10:-1/-1!1");
        }
        String others = ",:\n-\0";
        for (int i = 0; i < others.length(); i++) {
            told.text(0, "money." + "river" + others.charAt(i) + "bank");
            CHECK.due("no stop " + (int) others.charAt(i), told.uses(0), "12-16:2/-1!0");
        }
        told.text(0, "money bank. bank river? a bank a; water banks");
        CHECK.due("each its own", told.uses(0), "6-10:1/-1!0 12-16:2/-1!0 26-30:-1/-1!1 40-45:2/0!0");
    }

    private static void neighboursOfTheFirstAndLastThing() {
        Told told = new Told();
        told.term("key", 0, GOOD, 0);
        told.term("key", 39, GOOD, 0);
        told.neighbour("door", 0);
        told.neighbour("piano", 39);
        told.text(0, "door key. door door key; piano key? piano piano key! key");
        CHECK.due("sentence by sentence", told.uses(0),
                "5-8:0/-1!0 20-23:0/-1!0 31-34:1/-1!0 48-51:1/-1!0 53-56:-1/-1!1");
    }

    private static void neighboursOutside() {
        Told told = new Told();
        told.term("river bank", 1, GOOD, 0);
        told.term("river bank", 2, GOOD, 0);
        told.neighbour("river", 1);
        told.neighbour("bank", 1);
        told.neighbour("sea", 2);
        told.text(0, "river bank");
        CHECK.due("its own words don't count", told.uses(0), "0-10:-1/-1!1");
        told.text(0, "river bank sea");
        CHECK.due("one outside", told.uses(0), "0-10:1/-1!0");
        told.text(0, "river bank river bank sea");
        CHECK.due("those of another use do", told.uses(0), "0-10:0/-1!0 11-21:0/-1!0");
    }

    private static void doubtful() {
        Told told = new Told();
        told.ending("s");
        told.term("jam", 4, BANNED, 1);
        told.term("jam", 6, GOOD, 1);
        told.term("jam", 5, GOOD, 1);
        told.neighbour("road", 4);
        told.neighbour("road", 5);
        told.neighbour("bread", 6);
        told.text(0, "jams");
        CHECK.due("no neighbours", told.uses(0), "0-4:-1/-1!1");
        told.text(0, "road jam");
        CHECK.due("two share the most", told.uses(0), "5-8:-1/-1!1");
        told.text(0, "road jam bread bread");
        CHECK.due("a third has more", told.uses(0), "5-8:1/-1!0");
        told.term("tea", 9, GOOD, 0);
        told.keeper.define(9, 1L << 6);
        told.text(0, "jam tea");
        CHECK.due("a doubtful use is of no thing", told.uses(0), "0-3:-1/-1!1 4-7:3/-1!4");
    }

    private static void findingsInOrder() {
        Told told = new Told();
        told.term("puss", 0, BANNED, 0);
        told.term("moggy", 0, LOOSE, 0);
        told.term("ct", 0, SHORT, 0);
        told.term("cat", 0, GOOD, 0);
        told.keeper.define(0, 1L << 7);
        told.text(0, "puss moggy ct cat ct");
        CHECK.due("the first that is so", told.uses(0), "0-4:0/-1!2 5-10:1/-1!4 11-13:2/-1!3 14-17:3/-1!4 18-20:2/-1!4");
        told.keeper.define(0, 0);
        CHECK.due("without definitions", told.uses(0), "0-4:0/-1!2 5-10:1/-1!0 11-13:2/-1!3 14-17:3/-1!0 18-20:2/-1!0");
        told.keeper.kind(3, LOOSE);
        CHECK.due("no more a good one ahead", told.uses(0), "0-4:0/-1!2 5-10:1/-1!0 11-13:2/-1!3 14-17:3/-1!0 18-20:2/-1!3");
    }

    private static void shortsSpelledOut() {
        Told told = new Told();
        told.term("db", 1, SHORT, 0);
        told.term("data base", 1, GOOD, 0);
        told.term("set", 2, GOOD, 0);
        told.text(0, "db set db data base db");
        CHECK.due("a good one of its own thing", told.uses(0), "0-2:0/-1!3 3-6:2/-1!0 7-9:0/-1!3 10-19:1/-1!0 20-22:0/-1!0");
        told.text(1, "db");
        CHECK.due("of its own text", told.uses(1), "0-2:0/-1!3");
    }

    private static void defined() {
        Told told = new Told();
        told.term("cat", 0, GOOD, 0);
        told.term("animal", 1, BANNED, 0);
        told.term("fur", 39, GOOD, 0);
        told.keeper.define(0, 1L << 1 | 1L << 39);
        told.text(0, "cat animal cat fur cat");
        CHECK.due("all ahead", told.uses(0), "0-3:0/-1!4 4-10:1/-1!2 11-14:0/-1!4 15-18:2/-1!0 19-22:0/-1!0");
        told.keeper.know(39, true);
        CHECK.due("one known", told.uses(0), "0-3:0/-1!4 4-10:1/-1!2 11-14:0/-1!0 15-18:2/-1!0 19-22:0/-1!0");
        told.keeper.know(39, false);
        CHECK.due("and no more", told.keeper.use(0, 2, 4), 4);
        told.keeper.define(0, 1);
        told.text(0, "cat cat");
        CHECK.due("by itself", told.uses(0), "0-3:0/-1!4 4-7:0/-1!0");
        told.keeper.know(0, true);
        CHECK.due("itself known", told.uses(0), "0-3:0/-1!0 4-7:0/-1!0");
    }

    private static void missing() {
        Told told = new Told();
        told.term("cat", 0, GOOD, 0);
        told.text(0, "cat cat");
        int[][] wrong = {{-1, 0}, {2, 0}, {0, -1}, {0, 5}, {Integer.MAX_VALUE, 0}, {Integer.MIN_VALUE, 0}, {0, Integer.MAX_VALUE}};
        for (int[] numbers : wrong) {
            CHECK.refused("use " + numbers[0] + " " + numbers[1], MISSING, () -> told.keeper.use(0, numbers[0], numbers[1]));
        }
        CHECK.refused("of an empty text", MISSING, () -> told.keeper.use(1, 0, 0));
        CHECK.refused("no text and no use", IllegalArgumentException.class, () -> told.keeper.use(8, 9, 9));
    }

    private static void counted() {
        Told told = bank();
        told.text(0, "money bank. river bank. bank other");
        told.text(7, "banks of the river; other");
        int[] due = {2, 1, 2, 0};
        for (int term = 0; term < 4; term++) {
            CHECK.due("uses of term " + term, told.keeper.count(term), due[term]);
        }
        CHECK.refused("term below", MISSING, () -> told.keeper.count(-1));
        CHECK.refused("term above", MISSING, () -> told.keeper.count(4));
    }

    private static void crossings() {
        Told told = new Told();
        told.term("cat", 0, GOOD, 0);
        told.term("puss", 0, BANNED, 0);
        told.term("dog", 39, GOOD, 0);
        told.term("hound", 39, LOOSE, 0);
        told.term("cow", 5, GOOD, 0);
        told.text(0, "cat dog hound cow");
        told.text(1, "puss hound");
        CHECK.due("cats cross, dogs share a term", told.keeper.crossing(0, 1), 1);
        CHECK.due("the other way round", told.keeper.crossing(1, 0), 1);
        CHECK.due("with itself", told.keeper.crossing(0, 0), 0);
        CHECK.due("with an empty one", told.keeper.crossing(0, 2), 0);
        told.text(2, "dog puss");
        CHECK.due("terms shared", told.keeper.crossing(1, 2), 1L << 39);
        told.term("cat", 6, GOOD, 0);
        CHECK.due("a doubtful use is of no thing", told.keeper.crossing(0, 1), 0);
    }

    private static void fullText() {
        Told told = new Told();
        told.term("a", 0, GOOD, 0);
        told.text(0, "a ".repeat(300));
        CHECK.due("three hundred uses", told.keeper.uses(0), 300);
        CHECK.due("the last one's begin", told.keeper.use(0, 299, 0), 598);
        told.text(0, "a".repeat(600));
        CHECK.due("one long word", told.keeper.uses(0), 0);
        told.text(0, " ".repeat(599) + "A");
        CHECK.due("the last byte", told.uses(0), "599-600:0/-1!0");
    }
}
