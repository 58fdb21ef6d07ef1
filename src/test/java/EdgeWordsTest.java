/** Promises 17 to 22 at their boundaries; each method stands for the words that it names. */
public final class EdgeWordsTest {
    private static final Due DUE = new Due();
    private static final int MIN = Integer.MIN_VALUE;
    private static final int MAX = Integer.MAX_VALUE;

    public static void main(String[] args) {
        bytesOfAnEntry();
        lettersAndBlanks();
        noTwoAlike();
        twelveEntries();
        bytesOfAText();
        lettersAndBlanksOfAText();
        asItsWordsDo();
        twoSignsOrOne();
        anEntryAheadOfOneByte();
        theLeastEntry();
        piecesOfNone();
        theLatestCode();
        nothingOfTheTextAhead();
        eightTexts();
        aRefusedTextIsNotKept();
        sizeOfASmallBook();
        soManyAtMost();
        theLeastSet();
        smallOfNothing();
        theLatestSmall();
        DUE.end();
    }

    private static void pieces(HillArms x, int... due) {
        DUE.is("piece(-1)", x.piece(-1), -1);
        for (int i = 0; i < due.length; i++) {
            DUE.is("piece(" + i + ")", x.piece(i), due[i]);
        }
        DUE.is("no more pieces", x.piece(due.length), -1);
    }

    private static void bytesOfAnEntry() {
        DUE.about("ENTRIES (12): 1 to 12 bytes of small letters");
        int[] lengths = {0, 1, 2, 11, 12, 13, 60, 440};
        for (int length : lengths) {
            boolean right = length >= 1 && length <= 12;
            HillArms x = new HillArms();
            DUE.is("an ENTRY of " + length, Tapes.entry(x, "a".repeat(length)), right ? 0 : -1);
            DUE.is("ENTRIES then", x.count(3), right ? 1 : 0);
        }
        DUE.is("12 with a blank", Tapes.entry(new HillArms(), "abcde fghijk"), 0);
        DUE.is("13 with a blank", Tapes.entry(new HillArms(), "abcdef ghijkl"), -1);
        DUE.is("as many WORDS as there can be", Tapes.entry(new HillArms(), "a b c d e f"), 0);
        HillArms x = Tapes.book("abcdefghijkl");
        DUE.is("all of its 12 bytes count", Tapes.code(x, "abcdefghijkl"), 2);
        DUE.is("to the last one", Tapes.code(x, "abcdefghijkm"), 12);
    }

    private static void lettersAndBlanks() {
        DUE.about("one blank between two WORDS at most, none at either end;");
        for (int b = 0; b < 256; b++) {
            boolean letter = b >= 'a' && b <= 'z';
            int one = letter ? 0 : -1;
            DUE.is("byte " + b + " alone", Tapes.entry(new HillArms(), "" + (char) b), one);
            DUE.is("byte " + b + " first", Tapes.entry(new HillArms(), (char) b + "ab"), one);
            DUE.is("byte " + b + " last", Tapes.entry(new HillArms(), "ab" + (char) b), one);
            DUE.is("byte " + b + " between", Tapes.entry(new HillArms(), "a" + (char) b + "b"),
                    letter || b == ' ' ? 0 : -1);
        }
        String[] wrong = {" ", "  ", " a", "a ", " a ", "a  b", "a   b", "a b  c", "a\nb", " a b"};
        for (String text : wrong) {
            HillArms x = new HillArms();
            DUE.is("ENTRY '" + text + "'", Tapes.entry(x, text), -1);
            DUE.is("ENTRIES then", x.count(3), 0);
        }
        DUE.is("single blanks", Tapes.entry(new HillArms(), "a b c"), 0);
    }

    private static void noTwoAlike() {
        DUE.about("no two alike.");
        HillArms x = Tapes.book("to be", "to", "be", "tobe");
        String[] again = {"to be", "to", "be", "tobe"};
        for (String text : again) {
            DUE.is("'" + text + "' again", Tapes.entry(x, text), -1);
        }
        DUE.is("ENTRIES then", x.count(3), 4);
        String[] almost = {"to bee", "to b", "t", "bee", "ato", "tobf"};
        for (int i = 0; i < almost.length; i++) {
            DUE.is("'" + almost[i] + "'", Tapes.entry(x, almost[i]), 4 + i);
        }
        HillArms y = Tapes.book("abcdefghijkl");
        DUE.is("unlike in the last byte", Tapes.entry(y, "abcdefghijkm"), 1);
        DUE.is("unlike in the first byte", Tapes.entry(y, "bbcdefghijkl"), 2);
        DUE.is("alike", Tapes.entry(y, "abcdefghijkl"), -1);
    }

    private static void twelveEntries() {
        DUE.about("One more ENTRY, the tape's bytes: its number; NONE: there are 12, or not as told.");
        HillArms x = new HillArms();
        for (int i = 0; i < 12; i++) {
            DUE.is("not as told", Tapes.entry(x, "A"), -1);
            DUE.is("ENTRY " + i, Tapes.entry(x, "word" + (char) ('a' + i)), i);
            DUE.is("ENTRIES then", x.count(3), i + 1);
        }
        DUE.is("a 13th", Tapes.entry(x, "wordz"), -1);
        DUE.is("one of the twelve again", Tapes.entry(x, "worda"), -1);
        DUE.is("ENTRIES then", x.count(3), 12);
        DUE.is("the 12th is used", Tapes.code(x, "wordl"), 2);
        pieces(x, 111);
        DUE.is("the 13th is not", Tapes.code(x, "wordz"), 5);
    }

    private static void bytesOfAText() {
        DUE.about("A TEXT (small letters, blanks likewise, 1 to 60 bytes)");
        int[] lengths = {0, 1, 2, 59, 60, 61, 62, 440};
        for (int length : lengths) {
            boolean right = length >= 1 && length <= 60;
            HillArms x = new HillArms();
            DUE.is("code of " + length, Tapes.code(x, "a".repeat(length)), right ? length : -1);
            DUE.is("its last piece", x.piece(length - 1), right ? 'a' : -1);
            DUE.is("one more", x.piece(length), -1);
            DUE.is("year of " + length, Tapes.year(x, "a".repeat(length)), right ? 1 : -1);
            DUE.is("its SIGNS", x.small(12), right ? length : 0);
        }
        String many = "a" + " b".repeat(29);
        HillArms x = Tapes.book("a b", "b b b b b b");
        DUE.is("30 WORDS in 59 bytes", Tapes.code(x, many), 22);
        DUE.is("30 WORDS in 60 bytes", Tapes.code(x, many + "c"), 23);
    }

    private static void lettersAndBlanksOfAText() {
        DUE.about("A TEXT (small letters, blanks likewise, 1 to 60 bytes)");
        for (int b = 0; b < 256; b++) {
            boolean letter = b >= 'a' && b <= 'z';
            HillArms x = new HillArms();
            String between = "a" + (char) b + "b";
            boolean right = letter || b == ' ';
            DUE.is("byte " + b + " first", Tapes.code(x, (char) b + "ab"), letter ? 3 : -1);
            DUE.is("byte " + b + " last", Tapes.code(x, "ab" + (char) b), letter ? 3 : -1);
            DUE.is("byte " + b + " between", Tapes.code(x, between), right ? 3 : -1);
            DUE.is("its piece", x.piece(1), right ? b : -1);
            DUE.is("byte " + b + " last, year", Tapes.year(x, "ab" + (char) b), letter ? 1 : -1);
            DUE.is("byte " + b + " between, year", Tapes.year(x, between),
                    !right ? -1 : letter ? 2 : 1);
        }
        String[] wrong = {" ", " a", "a ", "a  b", "a b  c", "a" + " ".repeat(60)};
        for (String text : wrong) {
            DUE.is("code '" + text + "'", Tapes.code(new HillArms(), text), -1);
            DUE.is("year '" + text + "'", Tapes.year(new HillArms(), text), -1);
        }
    }

    private static void asItsWordsDo() {
        DUE.about("from the left an ENTRY, that begins and ends as its WORDS do (2 SIGNS), or one letter or blank (1 SIGN)");
        HillArms x = Tapes.book("abc", "abc de");
        String[] texts = {"abc", "abc x", "x abc", "x abc x", "abcx", "xabc", "abc de", "abc dex",
            "xabc de", "x abc de x", "abc d", "bc", "ab", "abc abc", "abcabc"};
        int[] due = {2, 4, 4, 6, 4, 4, 2, 6, 7, 6, 4, 2, 2, 5, 6};
        for (int i = 0; i < texts.length; i++) {
            DUE.is("code '" + texts[i] + "'", Tapes.code(x, texts[i]), due[i]);
        }
        String full = "x".repeat(56) + " abc";
        DUE.is("at the end of 60 bytes", Tapes.code(x, full), 59);
        DUE.is("beginning 60 bytes", Tapes.code(x, "abc " + "x".repeat(56)), 59);
        HillArms none = new HillArms();
        DUE.is("no ENTRIES", Tapes.code(none, "abc de"), 6);
        pieces(none, 'a', 'b', 'c', ' ', 'd', 'e');
    }

    private static void twoSignsOrOne() {
        DUE.about("(2 SIGNS), or one letter or blank (1 SIGN): the fewest SIGNS;");
        HillArms one = Tapes.book("a");
        DUE.is("an ENTRY of 1 byte is never the fewest", Tapes.code(one, "a"), 1);
        pieces(one, 'a');
        HillArms two = Tapes.book("ab");
        DUE.is("an ENTRY of 2 bytes", Tapes.code(two, "ab"), 2);
        pieces(two, 100);
        HillArms three = Tapes.book("abc");
        DUE.is("an ENTRY of 3 bytes", Tapes.code(three, "abc"), 2);
        pieces(three, 100);
        HillArms blank = Tapes.book("a b");
        DUE.is("an ENTRY of 2 WORDS", Tapes.code(blank, "a b a b"), 5);
        pieces(blank, 100, ' ', 100);
        // what is taken first may cost what would come next
        HillArms greedy = Tapes.book("ab cd", "cd ef gh");
        DUE.is("the fewest in all", Tapes.code(greedy, "ab cd ef gh"), 5);
        pieces(greedy, 'a', 'b', ' ', 101);
    }

    private static void anEntryAheadOfOneByte() {
        DUE.about("of like ones the first: an ENTRY (the least one) ahead of one byte.");
        HillArms x = Tapes.book("de", "ab");
        DUE.is("2 for 2", Tapes.code(x, "ab cc de"), 8);
        pieces(x, 101, ' ', 'c', 'c', ' ', 100);
        // "ab cd" and "ef" by bytes, or "ab" by bytes and "cd ef": the ENTRY comes first
        HillArms y = Tapes.book("cd ef", "ab cd");
        DUE.is("as few either way", Tapes.code(y, "ab cd ef"), 5);
        pieces(y, 101, ' ', 'e', 'f');
        HillArms z = Tapes.book("a");
        DUE.is("but not for more SIGNS", Tapes.code(z, "a a"), 3);
        pieces(z, 'a', ' ', 'a');
    }

    private static void theLeastEntry() {
        DUE.about("of like ones the first: an ENTRY (the least one) ahead of one byte.");
        HillArms x = Tapes.book("ab", "ab cd", "cd ef", "ef");
        DUE.is("ENTRIES 0 or 1 first", Tapes.code(x, "ab cd ef"), 5);
        pieces(x, 100, ' ', 102);
        HillArms y = Tapes.book("ab cd", "ab", "cd ef", "ef");
        DUE.is("ENTRIES 0 or 1 first", Tapes.code(y, "ab cd ef"), 5);
        pieces(y, 100, ' ', 103);
        String[] twelve = new String[12];
        for (int i = 0; i < 10; i++) {
            twelve[i] = "x" + (char) ('a' + i);
        }
        twelve[10] = "ab cd";
        twelve[11] = "ab";
        HillArms z = Tapes.book(twelve);
        DUE.is("the longer one is less here", Tapes.code(z, "ab cd"), 2);
        pieces(z, 110);
        DUE.is("the last of twelve", Tapes.code(z, "ab"), 2);
        pieces(z, 111);
    }

    private static void piecesOfNone() {
        DUE.about("100 and an ENTRY, else the byte. NONE: there is none such, or ahead of any.");
        HillArms x = Tapes.book("abc");
        int[] some = {-1, 0, 1, 59, 60, MIN, MAX};
        for (int k : some) {
            DUE.is("ahead of any", x.piece(k), -1);
        }
        Tapes.code(x, "");
        DUE.is("behind NONE alone", x.piece(0), -1);
        Tapes.code(x, "abc z");
        int[] due = {-1, 100, ' ', -1, -1, -1, -1};
        for (int i = 0; i < some.length; i++) {
            DUE.is("piece(" + some[i] + ")", x.piece(some[i]), due[i]);
        }
        DUE.is("the last one", x.piece(2), 'z');
        DUE.is("one more", x.piece(3), -1);
    }

    private static void theLatestCode() {
        DUE.about("The k-th piece of the latest code() that was not NONE");
        HillArms x = Tapes.book("abc");
        Tapes.code(x, "abc z");
        String[] wrong = {"", " ", "Z", "z ", "z".repeat(61)};
        for (String text : wrong) {
            DUE.is("not as told", Tapes.code(x, text), -1);
            pieces(x, 100, ' ', 'z');
        }
        Tapes.entry(x, "z");
        Tapes.year(x, "abc");
        x.small(1);
        pieces(x, 100, ' ', 'z');
        Tapes.code(x, "y");
        pieces(x, 'y');
    }

    private static void nothingOfTheTextAhead() {
        DUE.about("The tape's TEXT is CODED: how many SIGNS; NONE: not as told.");
        HillArms x = Tapes.book("cd", "ab cd ef");
        DUE.is("two WORDS", Tapes.code(x, "ab cd"), 5);
        pieces(x, 'a', 'b', ' ', 100);
        DUE.is("one WORD behind two", Tapes.code(x, "abcdef"), 6);
        pieces(x, 'a', 'b', 'c', 'd', 'e', 'f');
        DUE.is("three WORDS", Tapes.code(x, "ab cd ef"), 2);
        pieces(x, 101);
        DUE.is("a beginning of that", Tapes.code(x, "ab cd"), 5);
        pieces(x, 'a', 'b', ' ', 100);
        DUE.is("less of it", Tapes.code(x, "ab c"), 4);
        pieces(x, 'a', 'b', ' ', 'c');
        HillArms y = Tapes.book("zz");
        DUE.is("the last of 30 WORDS", Tapes.code(y, "a" + " b".repeat(28) + " zz"), 60);
        DUE.is("is an ENTRY", y.piece(58), 100);
        DUE.is("that is all", y.piece(59), -1);
    }

    private static void eightTexts() {
        DUE.about("The tape's TEXT comes into the YEAR: how many there are; NONE: there are 8, or not as told.");
        HillArms x = new HillArms();
        for (int i = 1; i <= 8; i++) {
            DUE.is("TEXT " + i, Tapes.year(x, "a".repeat(60)), i);
            DUE.is("SIGNS of all", x.small(0), 60 * i);
        }
        DUE.is("a ninth", Tapes.year(x, "b"), -1);
        DUE.is("a ninth not as told", Tapes.year(x, "B"), -1);
        DUE.is("SIGNS of all", x.small(12), 480);
        HillArms same = Tapes.book("abc");
        for (int i = 1; i <= 8; i++) {
            DUE.is("the same TEXT again", Tapes.year(same, "abc"), i);
        }
        DUE.is("each counts", same.small(1), 16);
        HillArms words = Tapes.book("b b b b b b");
        for (int i = 1; i <= 8; i++) {
            DUE.is("a TEXT of 30 WORDS", Tapes.year(words, "a" + " b".repeat(29)), i);
        }
        DUE.is("240 WORDS without ENTRIES", words.small(0), 472);
        DUE.is("240 WORDS", words.small(1), 472 - 8 * 4 * 9);
    }

    private static void aRefusedTextIsNotKept() {
        DUE.about("YEAR: 8 TEXTS at most are kept.");
        HillArms x = new HillArms();
        String[] wrong = {"", " ", "A", "a ", "a".repeat(61)};
        for (String text : wrong) {
            DUE.is("not as told", Tapes.year(x, text), -1);
            DUE.is("no SIGNS", x.small(0), 0);
        }
        for (int i = 1; i <= 8; i++) {
            DUE.is("TEXT " + i, Tapes.year(x, "ab"), i);
            DUE.is("not as told", Tapes.year(x, "ab "), -1);
        }
        DUE.is("SIGNS of all", x.small(0), 16);
    }

    private static void sizeOfASmallBook() {
        DUE.about("A SMALL BOOK of n ENTRIES (0 to 12) at most: how many SIGNS all TEXTS of the YEAR take; NONE: no such n.");
        int[] n = {-1, 0, 1, 11, 12, 13, MIN, MAX};
        int[] due = {-1, 47, 46, 36, 35, -1, -1, -1};
        int[] sets = {-1, 0, 1, 2047, 4095, -1, -1, -1};
        for (int i = 0; i < n.length; i++) {
            HillArms x = twelveWords();
            DUE.is("small(" + n[i] + ")", x.small(n[i]), due[i]);
            DUE.is("its set", x.smallSet(), sets[i]);
        }
        HillArms two = Tapes.book("abc", "de");
        Tapes.year(two, "abc");
        for (int i = 0; i <= 12; i++) {
            DUE.is("more than there are: small(" + i + ")", two.small(i), i == 0 ? 3 : 2);
        }
    }

    /** Twelve ENTRIES of three letters each, and a TEXT with every one of them. */
    private static HillArms twelveWords() {
        HillArms x = new HillArms();
        StringBuilder text = new StringBuilder();
        for (int i = 0; i < 12; i++) {
            String word = "ab" + (char) ('a' + i);
            Tapes.entry(x, word);
            text.append(i == 0 ? "" : " ").append(word);
        }
        Tapes.year(x, text.toString());
        return x;
    }

    private static void soManyAtMost() {
        DUE.about("so many of the ENTRIES at most that all TEXTS of the YEAR together take the fewest SIGNS;");
        HillArms x = Tapes.book("to be", "or not", "be or", "not to be");
        Tapes.year(x, "to be or not to be");
        int[] due = {18, 11, 8, 8, 8};
        int[] sets = {0, 8, 3, 3, 3};
        for (int n = 0; n < due.length; n++) {
            DUE.is("small(" + n + ")", x.small(n), due[n]);
            DUE.is("its set", x.smallSet(), sets[n]);
        }
        // the best one alone is not among the best two
        HillArms y = Tapes.book("ab cd", "ef gh", "cd ef");
        Tapes.year(y, "ab cd ef gh");
        Tapes.year(y, "cd ef");
        DUE.is("one", y.small(1), 10);
        DUE.is("its set", y.smallSet(), 4);
        DUE.is("two", y.small(2), 10);
        DUE.is("its set, the least of like ones", y.smallSet(), 3);
        DUE.is("three", y.small(3), 7);
        DUE.is("its set", y.smallSet(), 7);
    }

    private static void theLeastSet() {
        DUE.about("of like ones the least set as bits.");
        HillArms x = twelveWords();
        for (int n = 0; n <= 12; n++) {
            x.small(n);
            DUE.is("set of small(" + n + ")", x.smallSet(), (1 << n) - 1);
        }
        // either of two pairs does as well: 0 and 3, 1 and 2
        HillArms y = Tapes.book("abcd", "abc", "efgh", "efg");
        Tapes.year(y, "abcd efg");
        Tapes.year(y, "abc efgh");
        y.small(2);
        DUE.is("the least of all pairs", y.smallSet(), 5);
    }

    private static void smallOfNothing() {
        DUE.about("of like ones the least set as bits.");
        HillArms x = Tapes.book("a", "ab", "xyz", "abc");
        DUE.is("no TEXTS", x.small(4), 0);
        DUE.is("no ENTRY is needed", x.smallSet(), 0);
        Tapes.year(x, "a ab");
        DUE.is("what saves nothing", x.small(4), 4);
        DUE.is("is in no least set", x.smallSet(), 0);
        Tapes.year(x, "abc");
        DUE.is("one saves", x.small(4), 6);
        DUE.is("it alone", x.smallSet(), 8);
        HillArms y = new HillArms();
        Tapes.year(y, "abc");
        DUE.is("no ENTRIES", y.small(12), 3);
        DUE.is("the empty set", y.smallSet(), 0);
        // ENTRIES that come later are weighed, too
        Tapes.entry(y, "abc");
        DUE.is("an ENTRY behind the TEXT", y.small(12), 2);
        DUE.is("its set", y.smallSet(), 1);
    }

    private static void theLatestSmall() {
        DUE.about("The set of the latest small() that was not NONE, as bits; NONE ahead of any.");
        HillArms x = Tapes.book("de", "abc");
        Tapes.year(x, "abc");
        DUE.is("ahead of any", x.smallSet(), -1);
        x.small(-1);
        x.small(13);
        DUE.is("behind NONE alone", x.smallSet(), -1);
        x.small(1);
        DUE.is("of small(1)", x.smallSet(), 2);
        int[] wrong = {-1, 13, MIN, MAX};
        for (int n : wrong) {
            DUE.is("small(" + n + ")", x.small(n), -1);
            DUE.is("it stays", x.smallSet(), 2);
        }
        Tapes.year(x, "abc");
        Tapes.code(x, "de");
        DUE.is("it stays", x.smallSet(), 2);
        x.small(0);
        DUE.is("of small(0)", x.smallSet(), 0);
    }
}
