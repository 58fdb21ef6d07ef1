/** Promises 27 and 28 at their boundaries; each method stands for the words that it names. */
public final class EdgeHillsTest {
    private static final Due DUE = new Due();

    public static void main(String[] args) {
        howManyHills();
        howManyDays();
        halfADay();
        pairsOfBytes();
        dayByDay();
        firstAndLast();
        alwaysToAGreaterHill();
        theFewest();
        theLeastSet();
        noChoiceDoes();
        theLatestSet();
        DUE.end();
    }

    /** The first HILL sees the last one, day by day. */
    private static int[] straight(int n, int days) {
        int[] sights = new int[n * days];
        for (int day = 0; day < days; day++) {
            sights[day * n] = 1 << (n - 1);
        }
        return sights;
    }

    /** Each HILL sees the next one alone, day by day. */
    private static int[] chain(int n, int days) {
        int[] sights = new int[n * days];
        for (int i = 0; i < sights.length; i++) {
            sights[i] = i % n == n - 1 ? 0 : 2 << i % n;
        }
        return sights;
    }

    private static void due(String name, int got, HillArms x, int set) {
        DUE.is(name, got, Integer.bitCount(set));
        DUE.is(name + ", the set", x.hillSet(), set);
    }

    private static void howManyHills() {
        DUE.about("HILLS (3 to 14), days (1 to 8) with what sees what");
        for (int n = 1; n <= 16; n++) {
            HillArms x = new HillArms();
            boolean right = n >= 3 && n <= 14;
            DUE.is(n + " HILLS", Tapes.hills(x, n, straight(n, 1)), right ? 2 : -2);
            DUE.is("the set", x.hillSet(), right ? 1 | 1 << (n - 1) : 0);
            DUE.is(n + " HILLS in a chain", Tapes.hills(x, n, chain(n, 1)), right ? n : -2);
            DUE.is("the set", x.hillSet(), right ? (1 << n) - 1 : 0);
        }
        int[] wrong = {0, -1, -3, -14, Integer.MIN_VALUE, Integer.MAX_VALUE, 1 << 30};
        for (int n : wrong) {
            HillArms x = new HillArms();
            DUE.is(n + " HILLS", Tapes.hills(x, n, straight(3, 1)), -2);
            DUE.is(n + " HILLS, an empty tape", x.hills(n), -2);
        }
    }

    private static void howManyDays() {
        DUE.about("HILLS (3 to 14), days (1 to 8) with what sees what");
        int[] sizes = {3, 4, 13, 14};
        for (int n : sizes) {
            for (int days = 0; days <= 10; days++) {
                HillArms x = new HillArms();
                boolean right = days >= 1 && days <= 8;
                DUE.is(days + " days of " + n, Tapes.hills(x, n, straight(n, days)), right ? 2 : -2);
                DUE.is("a chain, " + days + " days", Tapes.hills(x, n, chain(n, days)), right ? n : -2);
                DUE.is("the tape then", x.count(6), 0);
            }
        }
    }

    private static void halfADay() {
        DUE.about("NONE: no choice does; -2: not as told.");
        int[] sizes = {3, 14};
        for (int n : sizes) {
            for (int bytes = 0; bytes <= 18 * n; bytes++) {
                HillArms x = new HillArms();
                Tapes.put(x, Tapes.full(bytes, 255));
                boolean right = bytes > 0 && bytes % (2 * n) == 0 && bytes <= 16 * n;
                DUE.is(bytes + " bytes for " + n, x.hills(n), right ? 2 : -2);
            }
        }
    }

    private static void pairsOfBytes() {
        DUE.about("for n of them the tape's pairs of bytes (the higher one first), day by day, HILL by HILL, tell as bits which greater HILLS it sees");
        HillArms x = new HillArms();
        // the first HILL sees HILL k alone, which sees the last one: k from 1 to 12, over both bytes
        for (int k = 1; k <= 12; k++) {
            int[] sights = new int[14];
            sights[0] = 1 << k;
            sights[k] = 1 << 13;
            due("by HILL " + k, Tapes.hills(x, 14, sights), x, 1 | 1 << k | 1 << 13);
            sights[k] = 0;
            sights[k == 12 ? 11 : k + 1] = 1 << 13;
            DUE.is("by another one", Tapes.hills(x, 14, sights), -1);
        }
        DUE.is("bit 8 is in the higher byte", bytes(x, 9, 0, 1, 0), -1);
        DUE.is("bit 8 is in the higher byte", bytes(x, 9, 1, 0, 0), 2);
        DUE.is("bit 7 is in the lower byte", bytes(x, 8, 128, 0, 0), -1);
        DUE.is("bit 7 is in the lower byte", bytes(x, 8, 0, 128, 0), 2);
    }

    /** The first HILL's two bytes; all others are one and the same. */
    private static int bytes(HillArms x, int n, int higher, int lower, int others) {
        int[] bytes = Tapes.full(2 * n, others);
        bytes[0] = higher;
        bytes[1] = lower;
        Tapes.put(x, bytes);
        return x.hills(n);
    }

    private static void dayByDay() {
        DUE.about("so that on each day one comes from the first to the last one by those chosen, each seeing the next one");
        int n = 14;
        for (int days = 1; days <= 8; days++) {
            for (int lost = 0; lost < days; lost++) {
                HillArms x = new HillArms();
                int[] sights = straight(n, days);
                sights[lost * n] = 0;
                DUE.is("day " + lost + " of " + days + " is lost", Tapes.hills(x, n, sights), -1);
                sights[lost * n] = 2;
                sights[lost * n + 1] = 1 << 13;
                due("by HILL 1 on day " + lost, Tapes.hills(x, n, sights), x, 3 | 1 << 13);
            }
        }
        // another HILL is needed on each of eight days
        int[] sights = new int[8 * n];
        for (int day = 0; day < 8; day++) {
            sights[day * n] = 2 << day;
            sights[day * n + day + 1] = 1 << 13;
        }
        HillArms x = new HillArms();
        due("one for each day", Tapes.hills(x, n, sights), x, 511 | 1 << 13);
    }

    private static void firstAndLast() {
        DUE.about("the fewest HILLS, the first and the last among them");
        for (int n = 3; n <= 14; n++) {
            HillArms x = new HillArms();
            due("straight, " + n, Tapes.hills(x, n, straight(n, 1)), x, 1 | 1 << (n - 1));
            int[] sights = chain(n, 1);
            sights[0] = 0;
            DUE.is("the first one sees none", Tapes.hills(x, n, sights), -1);
            sights = chain(n, 1);
            sights[n - 2] = 0;
            DUE.is("none sees the last one", Tapes.hills(x, n, sights), -1);
        }
    }

    private static void alwaysToAGreaterHill() {
        DUE.about("each seeing the next one, always to a greater HILL;");
        HillArms x = new HillArms();
        DUE.is("by a lesser one", Tapes.hills(x, 4, 4, 8, 2, 0), -1);
        DUE.is("itself alone", Tapes.hills(x, 3, 1, 2, 4), -1);
        DUE.is("the last one sees the first", Tapes.hills(x, 3, 2, 0, 1), -1);
        DUE.is("HILLS that there are not", Tapes.hills(x, 3, 0xfff8, 0xfff8, 0xfff8), -1);
        DUE.is("HILL 14 of 14", Tapes.hills(x, 14, Tapes.full(14, 1 << 14)), -1);
        due("all bits, 3", Tapes.hills(x, 3, 0xffff, 0xffff, 0xffff), x, 5);
        due("all bits, 14", Tapes.hills(x, 14, Tapes.full(14, 0xffff)), x, 1 | 1 << 13);
        due("lesser ones besides", Tapes.hills(x, 4, 3, 7, 15, 15), x, 15);
    }

    private static void theFewest() {
        DUE.about("the fewest HILLS, the first and the last among them");
        HillArms x = new HillArms();
        due("2 or 3", Tapes.hills(x, 3, 6, 4, 0), x, 5);
        due("3 or 4", Tapes.hills(x, 4, 2 | 4, 4, 8, 0), x, 13);
        due("the greater set of fewer", Tapes.hills(x, 6, 2 | 16, 4, 8, 32, 32, 0), x, 1 | 16 | 32);
        // on each day two would do, but one for both is fewer
        due("one for both days", Tapes.hills(x, 5, 2 | 8, 16, 0, 16, 0, 4 | 8, 0, 16, 16, 0), x,
                1 | 8 | 16);
        due("one for each day", Tapes.hills(x, 4, 2, 8, 0, 0, 4, 0, 8, 0), x, 15);
    }

    private static void theLeastSet() {
        DUE.about("always to a greater HILL; of like ones the least set as bits.");
        HillArms x = new HillArms();
        for (int n = 4; n <= 14; n++) {
            int[] sights = Tapes.full(n, 1 << (n - 1));
            int inner = (1 << (n - 1)) - 2;
            sights[0] = inner;
            due("any of " + n, Tapes.hills(x, n, sights), x, 3 | 1 << (n - 1));
            for (int gone = 1; gone < n - 2; gone++) {
                sights[gone] = 0;
                due("any but " + gone, Tapes.hills(x, n, sights), x, 1 | 2 << gone | 1 << (n - 1));
            }
        }
        // 1 and 4, or 2 and 3: the greatest bit that is unlike counts
        due("two pairs", Tapes.hills(x, 6, 2 | 4, 16, 8, 32, 32, 0), x, 1 | 4 | 8 | 32);
    }

    private static void noChoiceDoes() {
        DUE.about("how many are chosen; NONE: no choice does; -2: not as told.");
        for (int n = 3; n <= 14; n++) {
            HillArms x = new HillArms();
            DUE.is("nothing is seen, " + n, Tapes.hills(x, n, new int[n]), -1);
            DUE.is("nothing is seen on 8 days", Tapes.hills(x, n, new int[8 * n]), -1);
            DUE.is("nor on 9", Tapes.hills(x, n, new int[9 * n]), -2);
            DUE.is("no set", x.hillSet(), 0);
        }
    }

    private static void theLatestSet() {
        DUE.about("The HILLS of the latest hills() that told a number, as bits; 0 ahead of any.");
        HillArms x = new HillArms();
        DUE.is("ahead of any", x.hillSet(), 0);
        DUE.is("no choice does", Tapes.hills(x, 3, 0, 0, 0), -1);
        DUE.is("behind NONE alone", x.hillSet(), 0);
        DUE.is("not as told", Tapes.hills(x, 2, 2, 0), -2);
        DUE.is("behind -2 alone", x.hillSet(), 0);
        due("a number", Tapes.hills(x, 4, 2, 4, 8, 0), x, 15);
        DUE.is("no choice does", Tapes.hills(x, 4, 2, 4, 4, 0), -1);
        DUE.is("it stays", x.hillSet(), 15);
        DUE.is("not as told", Tapes.hills(x, 15, straight(15, 1)), -2);
        DUE.is("it stays", x.hillSet(), 15);
        DUE.is("not as told", x.hills(4), -2);
        DUE.is("it stays", x.hillSet(), 15);
        due("another one", Tapes.hills(x, 3, 4, 0, 0), x, 5);
    }
}
