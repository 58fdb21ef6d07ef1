import java.util.Random;

/** Promises 17 (entry), 18 (code), 19 (piece), 20 (year), 21 (small), 22 (smallSet). */
public final class WordsTest {
    private static final Due DUE = new Due();

    public static void main(String[] args) {
        entries();
        texts();
        codes();
        likeOnes();
        latestCodeStays();
        year();
        smallBooks();
        againstTheOracle();
        DUE.end();
    }

    private static void entries() {
        HillArms x = Tapes.book("a", "z", "ab", "abcdefghijkl", "a b c d e fg", "b");
        String[] wrong = {"", " ", "a ", " a", "a  b", "A", "a1", "a-b", "abcdefghijklm", "ab\n",
            "a\nb", "{", "`", "ab", "b", "abcdefghijkl", "\u00e9"};
        for (String text : wrong) {
            DUE.is("entry '" + text + "'", Tapes.entry(x, text), -1);
        }
        DUE.is("six ENTRIES", x.count(3), 6);
        for (int i = 6; i < 12; i++) {
            DUE.is("entry " + i, Tapes.entry(x, "x" + (char) ('a' + i)), i);
        }
        DUE.is("a 13th", Tapes.entry(x, "new"), -1);
        DUE.is("twelve", x.count(3), 12);
    }

    private static void texts() {
        HillArms x = new HillArms();
        String[] wrong = {"", " ", "a ", " a", "a  b", "A", "a1", "a" + "b".repeat(60), "a\nb"};
        for (String text : wrong) {
            DUE.is("code '" + text + "'", Tapes.code(x, text), -1);
            DUE.is("year '" + text + "'", Tapes.year(x, text), -1);
        }
        DUE.is("sixty bytes", Tapes.code(x, "a".repeat(60)), 60);
        DUE.is("the last piece", x.piece(59), 'a');
        DUE.is("no further piece", x.piece(60), -1);
        DUE.is("piece(-1)", x.piece(-1), -1);
        DUE.is("piece(MAX)", x.piece(Integer.MAX_VALUE), -1);
        DUE.is("one byte", Tapes.code(x, "q"), 1);
        DUE.is("its piece", x.piece(0), 'q');
        DUE.is("no second piece", x.piece(1), -1);
        DUE.is("thirty WORDS", Tapes.code(x, "a" + " b".repeat(29)), 59);
        DUE.is("year of thirty WORDS", Tapes.year(x, "a" + " b".repeat(29)), 1);
        DUE.is("small", x.small(12), 59);
    }

    private static void pieces(HillArms x, int... due) {
        for (int i = 0; i < due.length; i++) {
            DUE.is("piece(" + i + ")", x.piece(i), due[i]);
        }
        DUE.is("no more pieces", x.piece(due.length), -1);
    }

    private static void codes() {
        HillArms x = Tapes.book("to be", "be", "the king", "king", "or not");
        DUE.is("to be", Tapes.code(x, "to be"), 2);
        pieces(x, 100);
        DUE.is("an ENTRY inside a WORD", Tapes.code(x, "tobe bet king"), 11);
        pieces(x, 't', 'o', 'b', 'e', ' ', 'b', 'e', 't', ' ', 103);
        DUE.is("begins in a WORD", Tapes.code(x, "sto be"), 6);
        pieces(x, 's', 't', 'o', ' ', 101);
        DUE.is("ends in a WORD", Tapes.code(x, "to bee"), 6);
        pieces(x, 't', 'o', ' ', 'b', 'e', 'e');
        DUE.is("many", Tapes.code(x, "to be or not to be the king"), 11);
        pieces(x, 100, ' ', 104, ' ', 100, ' ', 102);
        HillArms y = Tapes.book("ab cd", "cd ef gh ij");
        DUE.is("a later ENTRY saves more", Tapes.code(y, "ab cd ef gh ij"), 5);
        pieces(y, 'a', 'b', ' ', 101);
    }

    private static void likeOnes() {
        HillArms x = Tapes.book("a", "be", "or");
        DUE.is("two for two", Tapes.code(x, "be or a"), 7);
        pieces(x, 101, ' ', 102, ' ', 'a');
        // "ab cde", a blank, "fghi" and "ab", a blank, "cde fghi" take five SIGNS each
        HillArms y = Tapes.book("ab cde", "cde fghi", "ab", "fghi");
        DUE.is("the least ENTRY of like ones", Tapes.code(y, "ab cde fghi"), 5);
        pieces(y, 100, ' ', 103);
        HillArms z = Tapes.book("ab", "fghi", "cde fghi", "ab cde");
        DUE.is("the least ENTRY of like ones", Tapes.code(z, "ab cde fghi"), 5);
        pieces(z, 100, ' ', 102);
        HillArms w = Tapes.book("cde fghi", "fghi", "ab cde");
        DUE.is("an ENTRY ahead of a byte", Tapes.code(w, "ab cde fghi"), 5);
        pieces(w, 102, ' ', 101);
    }

    private static void latestCodeStays() {
        HillArms x = Tapes.book("to be");
        Tapes.code(x, "to be");
        DUE.is("not as told", Tapes.code(x, "TO"), -1);
        Tapes.entry(x, "to");
        Tapes.year(x, "to");
        x.small(2);
        pieces(x, 100);
    }

    private static void year() {
        HillArms x = new HillArms();
        for (int i = 1; i <= 8; i++) {
            DUE.is("year " + i, Tapes.year(x, "a".repeat(60)), i);
        }
        DUE.is("a ninth", Tapes.year(x, "a"), -1);
        DUE.is("all of them", x.small(0), 480);
    }

    private static void smallBooks() {
        HillArms x = Tapes.book("to be", "or not", "be", "not to", "king");
        int[] wrong = {-1, 13, Integer.MIN_VALUE, Integer.MAX_VALUE};
        for (int n : wrong) {
            DUE.is("small(" + n + ")", x.small(n), -1);
            DUE.is("ahead of any", x.smallSet(), -1);
        }
        DUE.is("no TEXTS", x.small(12), 0);
        DUE.is("no set", x.smallSet(), 0);
        Tapes.year(x, "to be or not to be");
        int[] signs = {18, 12, 8, 8};
        int[] sets = {0, 1, 3, 3};
        for (int n = 0; n < signs.length; n++) {
            DUE.is("small(" + n + ")", x.small(n), signs[n]);
            DUE.is("its set", x.smallSet(), sets[n]);
        }
        DUE.is("small(13)", x.small(13), -1);
        DUE.is("the set stays", x.smallSet(), 3);
        Tapes.year(x, "not to king");
        DUE.is("two TEXTS, one ENTRY", x.small(1), 21);
        DUE.is("its set", x.smallSet(), 8);
        DUE.is("two TEXTS, all", x.small(12), 13);
        DUE.is("its set", x.smallSet(), 1 | 2 | 8 | 16);
        HillArms y = Tapes.book("king", "road");
        Tapes.year(y, "king road");
        DUE.is("one of two like ones", y.small(1), 7);
        DUE.is("the least", y.smallSet(), 1);
        HillArms z = Tapes.book("ab", "a");
        Tapes.year(z, "ab a");
        DUE.is("what saves nothing", z.small(2), 4);
        DUE.is("is not in it", z.smallSet(), 0);
        HillArms w = Tapes.book("abc def", "abc", "def");
        Tapes.year(w, "abc");
        Tapes.year(w, "def");
        DUE.is("no ENTRY over two TEXTS", w.small(1), 5);
        DUE.is("its set", w.smallSet(), 2);
    }

    private static String someWords(Random random, int most) {
        String[] words = {"ab", "cde", "fghi", "x", "king"};
        StringBuilder text = new StringBuilder(words[random.nextInt(words.length)]);
        for (int i = random.nextInt(most); i > 0; i--) {
            text.append(' ').append(words[random.nextInt(words.length)]);
        }
        return text.toString();
    }

    private static void both(HillArms x, Oracle y, String text) {
        Tapes.put(x, text);
        int[] bytes = Tapes.bytesOf(text);
        y.end(0);
        for (int at = 0; at < bytes.length; at += 4) {
            y.feed(Tapes.four(bytes, at));
        }
        y.end(bytes.length);
    }

    private static void againstTheOracle() {
        for (int seed = 0; seed < 30; seed++) {
            Random random = new Random(seed);
            HillArms x = new HillArms();
            Oracle y = new Oracle();
            for (int i = random.nextInt(24); i > 0; i--) {
                both(x, y, someWords(random, 3));
                DUE.is("entry", x.entry(), y.entry());
            }
            for (int i = 0; i < 9; i++) {
                String text = someWords(random, 14);
                both(x, y, text);
                DUE.is("code " + text, x.code(), y.code());
                for (int k = seed % 2; k < 60; k += 2) {
                    DUE.is("piece of " + text, x.piece(k), y.piece(k));
                }
                both(x, y, text);
                DUE.is("year " + text, x.year(), y.year());
            }
            int n = random.nextInt(random.nextInt(13) + 1);
            DUE.is("seed " + seed + " small(" + n + ")", x.small(n), y.small(n));
            DUE.is("seed " + seed + " smallSet", x.smallSet(), y.smallSet());
        }
    }
}
