import java.util.NoSuchElementException;

/** Promises 13 and 14, but for findings: words, forms, uses from the left, and which term a use is of. */
public final class UsesTest {
    private static final Check CHECK = new Check("UsesTest");
    private static final Class<NoSuchElementException> MISSING = NoSuchElementException.class;
    private static final int GOOD = 0;
    private static final int BANNED = 1;
    private static final int LOOSE = 3;
    private static final int MIN = Integer.MIN_VALUE;
    private static final int MAX = Integer.MAX_VALUE;

    public static void main(String[] args) {
        greatCountAsSmall();
        longestRowsOfLetters();
        bytesThatAreNoLetters();
        oneBlankOrLineEnd();
        nothingElseBetween();
        wordsMissing();
        mostWords();
        mostWordsByAnEnding();
        nextBeginsBehind();
        lessWordsWhereMoreDoNotStand();
        doubtfulOfMostWords();
        rowAlone();
        endingsItTakes();
        firstAndLastEnding();
        sixteenLetters();
        endingsToldLater();
        leastNumber();
        leastNumberOfTheThing();
        noSuchUse();
        anotherWhat();
        CHECK.end();
    }

    private static void greatCountAsSmall() {
        CHECK.sentence("==== 2: A .. Z count as a .. z");
        Told told = new Told();
        told.term("azby", 0, GOOD, 0);
        CHECK.due("in any mix", told.uses(0, "azby AZBY Azby aZbY"), "0-4:0/-1!0 5-9:0/-1!0 10-14:0/-1!0 15-19:0/-1!0");
        told.term("az", 1, GOOD, 0);
        told.term("az", 2, GOOD, 0);
        told.neighbour("za", 2);
        CHECK.due("of neighbours, too", told.uses(0, "ZA Az"), "3-5:2/-1!0");
        told.ending("zs");
        told.term("cat", 3, GOOD, 1);
        CHECK.due("of endings, too", told.uses(0, "CATZS catZs"), "0-5:3/0!0 6-11:3/0!0");
    }

    private static void longestRowsOfLetters() {
        CHECK.sentence("==== 2: WORDS of a TEXT: each longest row of letters");
        Told told = new Told();
        told.term("a", 0, GOOD, 0);
        told.term("cat", 1, GOOD, 0);
        CHECK.due("not a part of one", told.uses(0, "cats scat catcat ca at"), "");
        CHECK.due("at both ends of the text", told.uses(0, "cat,cat"), "0-3:1/-1!0 4-7:1/-1!0");
        CHECK.due("the whole text", told.uses(0, "cat"), "0-3:1/-1!0");
        CHECK.due("an empty text", told.uses(0, ""), "");
        told.text(0, "a".repeat(600));
        CHECK.due("six hundred letters", told.uses(0), 0);
        told.text(0, "a ".repeat(300));
        CHECK.due("three hundred words", told.uses(0), 300);
        CHECK.due("the last of them", told.useAt(0, 299), "598-599:0/-1!0");
        CHECK.refused("none behind it", MISSING, () -> told.use(0, 300, 0));
        CHECK.due("the last byte", told.uses(0, " ".repeat(599) + "A"), "599-600:0/-1!0");
    }

    private static void bytesThatAreNoLetters() {
        CHECK.sentence("==== 2: LETTERS a to z (A .. Z count as a .. z)");
        Told told = new Told();
        told.term("cat", 0, GOOD, 0);
        int[] others = {'@', '[', '`', '{', 0, 31, '0', '9', '_', '-', '\'', 127, 128, 'a' + 128, 'z' + 128, 'A' + 128, 255};
        for (int other : others) {
            told.text(0, (char) other + "cat" + (char) other);
            CHECK.due("byte " + other, told.ofAll(0, 0), 1);
        }
        for (int letter : new int[] {'a', 'z', 'A', 'Z'}) {
            told.text(0, (char) letter + "cat");
            CHECK.due("ahead of it " + (char) letter, told.uses(0), 0);
            told.text(0, "cat" + (char) letter);
            CHECK.due("behind it " + (char) letter, told.uses(0), 0);
        }
    }

    private static void oneBlankOrLineEnd() {
        CHECK.sentence("==== 2: WORDS with nothing but one blank (32) or line end (10) between stand TOGETHER");
        Told told = new Told();
        told.term("red house", 0, GOOD, 0);
        told.term("one two three", 1, GOOD, 0);
        CHECK.due("a blank, a line end", told.uses(0, "red house RED\nHouse"), "0-9:0/-1!0 10-19:0/-1!0");
        CHECK.due("of three", told.uses(0, "one two three one\ntwo three one two\nthree one\ntwo\nthree"),
                "0-13:1/-1!0 14-27:1/-1!0 28-41:1/-1!0 42-55:1/-1!0");
    }

    private static void nothingElseBetween() {
        CHECK.sentence("==== 2: nothing but one blank (32) or line end (10)");
        Told told = new Told();
        told.term("red house", 0, GOOD, 0);
        String[] between = {"", "  ", "\n\n", " \n", "\n ", ",", ", ", " ,", "-", "\t", "\r", "\u000b", "\f", "\u001f", "!", ".",
            ". ", " .", "\0", "\u00a0", "\u008a", "*", "_", " \0"};
        for (String signs : between) {
            told.text(0, "red" + signs + "house");
            CHECK.due("'" + signs + "' (" + signs.length() + ")", told.uses(0), 0);
        }
        told.term("one two three", 1, GOOD, 0);
        for (String signs : new String[] {"one two  three", "one  two three", "one two, three", "one. two three"}) {
            told.text(0, signs);
            CHECK.due(signs, told.uses(0), 0);
        }
    }

    private static void wordsMissing() {
        CHECK.sentence("==== 2: FORMS whose WORDS are those that stand there");
        Told told = new Told();
        told.term("red house", 0, GOOD, 0);
        for (String signs : new String[] {"red", "house", "red ", "red\n", "house red", "red houses", "reds house", "red hous", "redhouse"}) {
            told.text(0, signs);
            CHECK.due(signs, told.uses(0), 0);
        }
        told.text(0, " ".repeat(591) + "red house");
        CHECK.due("at the end of a full text", told.allUses(0), "591-600:0/-1!0");
        told.cut(0, 599);
        CHECK.due("one byte less", told.allUses(0), "");
    }

    private static void mostWords() {
        CHECK.sentence("==== 2: of all FORMS .. that of most WORDS");
        Told told = lengths();
        CHECK.due("three words", told.uses(0, "a b c"), "0-5:1/-1!0");
        CHECK.due("two", told.uses(0, "a b"), "0-3:2/-1!0");
        CHECK.due("one", told.uses(0, "a"), "0-1:0/-1!0");
        Told other = new Told();
        other.term("a b c", 0, GOOD, 0);
        other.term("a b", 1, GOOD, 0);
        other.term("a", 2, GOOD, 0);
        CHECK.due("told the other way round", other.uses(0, "a b c a b a"), "0-5:0/-1!0 6-9:1/-1!0 10-11:2/-1!0");
    }

    private static Told lengths() {
        Told told = new Told();
        told.term("a", 0, GOOD, 0);
        told.term("a b c", 2, GOOD, 0);
        told.term("a b", 1, GOOD, 0);
        told.term("c", 3, GOOD, 0);
        told.term("b c", 4, GOOD, 0);
        return told;
    }

    private static void mostWordsByAnEnding() {
        CHECK.sentence("==== 2: of all FORMS (with an ENDING, too) that of most WORDS");
        Told told = new Told();
        told.ending("s");
        told.term("a", 0, GOOD, 0);
        told.term("a b", 1, GOOD, 1);
        CHECK.due("two words by an ending", told.uses(0, "a bs"), "0-4:1/0!0");
        CHECK.due("the first word's ending is no form of two", told.uses(0, "as b"), "");
    }

    private static void nextBeginsBehind() {
        CHECK.sentence("==== 2: from the left: at each WORD that no USE ahead has; the next one begins behind it");
        Told told = lengths();
        CHECK.due("a, then a b, then b c", told.uses(0, "a a b b c"), "0-1:0/-1!0 2-5:2/-1!0 6-9:4/-1!0");
        CHECK.due("a b, then a b c", told.uses(0, "a b a b c"), "0-3:2/-1!0 4-9:1/-1!0");
        CHECK.due("a b has b, so b c isn't", told.uses(0, "a b\n\nc"), "0-3:2/-1!0 5-6:3/-1!0");
        CHECK.due("words of none between", told.uses(0, "x b c x"), "2-5:4/-1!0");
        CHECK.due("one behind the other", told.uses(0, "a b c a b c"), "0-5:1/-1!0 6-11:1/-1!0");
    }

    private static void lessWordsWhereMoreDoNotStand() {
        CHECK.sentence("==== 2: those that stand there, TOGETHER, that of most WORDS");
        Told told = lengths();
        CHECK.due("two, then one", told.uses(0, "a b  c"), "0-3:2/-1!0 5-6:3/-1!0");
        CHECK.due("one, then two", told.uses(0, "a, b c"), "0-1:0/-1!0 3-6:4/-1!0");
        CHECK.due("three but for the last", told.uses(0, "a b d"), "0-3:2/-1!0");
        CHECK.due("three but for the last letter", told.uses(0, "a b cc"), "0-3:2/-1!0");
    }

    private static void doubtfulOfMostWords() {
        CHECK.sentence("==== 2: that of most WORDS; if there is one, it is a USE (DOUBTFUL or not)");
        Told told = new Told();
        told.term("a", 0, GOOD, 0);
        told.term("a b", 1, GOOD, 0);
        told.term("a b", 2, GOOD, 0);
        CHECK.due("no shorter one instead", told.uses(0, "a b"), "0-3:-1/-1!1");
    }

    private static void rowAlone() {
        CHECK.sentence("FORMS of a TERM: its row");
        Told told = new Told();
        told.ending("s");
        told.term("cat", 0, GOOD, 0);
        CHECK.due("without classes its row alone", told.uses(0, "cat cats"), "0-3:0/-1!0");
        told.term("cats", 0, GOOD, 0);
        CHECK.due("its row is no ending", told.uses(0, "cats"), "0-4:1/-1!0");
    }

    private static void endingsItTakes() {
        CHECK.sentence("FORMS of a TERM: that with an ENDING (one that it takes) behind its last WORD");
        Told told = new Told();
        told.ending("s");
        told.ending("es");
        told.ending("s");
        told.term("box", 0, GOOD, 2);
        told.term("hen house", 1, GOOD, 5);
        told.term("ox", 2, GOOD, 4);
        CHECK.due("one that it takes", told.uses(0, "box boxs BOXES boxeses boxe boxess"), "0-3:0/-1!0 9-14:0/1!0");
        CHECK.due("behind the last word alone", told.uses(0, "hen houses. hens house. hens houses"), "0-10:1/0!0");
        CHECK.due("by the third", told.uses(0, "oxs"), "0-3:2/2!0");
        CHECK.due("an ending is no form", told.uses(0, "s es"), "");
        CHECK.due("nor is it behind a blank", told.uses(0, "box es"), "0-3:0/-1!0");
    }

    private static void firstAndLastEnding() {
        CHECK.sentence("CLASSES (bits: which ENDINGS it takes)");
        Told told = new Told();
        for (int i = 0; i < 6; i++) {
            told.ending("" + (char) ('u' + i));
            told.term("" + (char) ('a' + i), i, GOOD, 1 << i);
        }
        told.term("all", 6, GOOD, 63);
        told.term("none", 7, GOOD, 0);
        for (int i = 0; i < 6; i++) {
            String signs = "" + (char) ('a' + i);
            told.text(0, signs + "u " + signs + "v " + signs + "w " + signs + "x " + signs + "y " + signs + "z");
            CHECK.due("bit " + i + ", where", told.ofAll(0, 0), 3 * i);
            CHECK.due("bit " + i + ", which", told.ofAll(0, 3), i);
        }
        told.text(0, "allu allv allw allx ally allz nonez noneu none");
        CHECK.due("all bits, and none", told.ofAll(0, 3), "0 1 2 3 4 5 -1");
    }

    private static void sixteenLetters() {
        CHECK.sentence("FORMS: if that has 16 LETTERS at most");
        Told told = new Told();
        told.ending("ness");
        told.term("abcdefghijkl", 0, GOOD, 1);
        told.term("abcdefghijkl mnopqrstuvwx abcdefghijkl", 1, GOOD, 1);
        CHECK.due("sixteen", told.uses(0, "abcdefghijklness abcdefghijklnesss"), "0-16:0/0!0");
        CHECK.due("sixteen behind two words", told.uses(0, "abcdefghijkl mnopqrstuvwx abcdefghijklness"), "0-42:1/0!0");
    }

    private static void endingsToldLater() {
        CHECK.sentence("FORMS: with an ENDING (one that it takes), whenever that was told");
        Told told = new Told();
        told.term("cat", 0, GOOD, 2);
        told.text(0, "cats");
        told.ending("x");
        CHECK.due("not one yet", told.uses(0), 0);
        told.ending("s");
        CHECK.due("told behind the term", told.allUses(0), "0-4:0/1!0");
    }

    private static void leastNumber() {
        CHECK.sentence("==== 2: (or if all are of one) the TERM of the least number");
        Told told = new Told();
        told.ending("s");
        told.term("cats", 0, BANNED, 0);
        told.term("cat", 0, GOOD, 1);
        told.term("cats", 0, LOOSE, 0);
        CHECK.due("the least", told.uses(0, "cats cat"), "0-4:0/-1!2 5-8:1/-1!0");
        Told other = new Told();
        other.ending("s");
        other.term("cat", 0, GOOD, 1);
        other.term("cats", 0, BANNED, 0);
        CHECK.due("the least by an ending", other.uses(0, "cats"), "0-4:0/0!0");
        CHECK.due("no neighbours are asked for", other.neighbour("x", 5), 1);
        CHECK.due("of one thing", other.uses(0, "x cats"), "2-6:0/0!0");
    }

    private static void leastNumberOfTheThing() {
        CHECK.sentence("==== 2: Of those of that THING the TERM of the least number");
        Told told = new Told();
        told.ending("s");
        told.term("keys", 1, GOOD, 0);
        told.term("key", 2, GOOD, 1);
        told.term("keys", 2, BANNED, 0);
        told.term("keys", 1, LOOSE, 0);
        told.neighbour("piano", 2);
        told.neighbour("door", 1);
        CHECK.due("the second thing's", told.uses(0, "piano keys"), "6-10:1/0!0");
        CHECK.due("the first thing's", told.uses(0, "door keys"), "5-9:0/-1!0");
    }

    private static void noSuchUse() {
        CHECK.sentence("14: NoSuchElementException: there is none");
        Told told = new Told();
        CHECK.refused("without terms", MISSING, () -> told.use(0, 0, 0));
        told.term("cat", 0, GOOD, 0);
        told.text(0, "cat cat");
        told.text(1, "cat cat cat");
        CHECK.due("the first", told.use(0, 0, 0), 0);
        CHECK.due("the last", told.use(0, 1, 0), 4);
        for (int i : new int[] {-1, 2, 3, MIN, MAX}) {
            CHECK.refused("use " + i, MISSING, () -> told.use(0, i, 0));
        }
        CHECK.due("that of a longer text", told.use(1, 2, 0), 8);
        CHECK.refused("not of the shorter one", MISSING, () -> told.use(0, 2, 0));
        CHECK.refused("of an empty one", MISSING, () -> told.use(2, 0, 0));
    }

    private static void anotherWhat() {
        CHECK.sentence("14: NoSuchElementException: another what");
        Told told = new Told();
        told.term("cat", 0, GOOD, 0);
        told.text(0, "cat");
        for (int what : new int[] {-1, 5, MIN, MAX}) {
            CHECK.refused("what " + what, MISSING, () -> told.use(0, 0, what));
            CHECK.refused("of no use", MISSING, () -> told.use(0, 1, what));
        }
        CHECK.due("the first what", told.use(0, 0, 0), 0);
        CHECK.due("the last what", told.use(0, 0, 4), 0);
    }
}
