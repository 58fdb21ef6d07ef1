import java.util.NoSuchElementException;

/** Promise 23 at its boundaries; each method stands for the words that it names. */
public final class EdgeSlipsTest {
    private static final Due DUE = new Due();
    private static final int MIN = Integer.MIN_VALUE;
    private static final int MAX = Integer.MAX_VALUE;
    private static final long REFUSED = -7;

    public static void main(String[] args) {
        oddsOfASlip();
        signsAndTowers();
        cutEachTime();
        nothingLeft();
        allThree();
        theObjectsTowersDoNotCount();
        DUE.end();
    }

    private static long right(HillArms x, int signs, int towers, int r) {
        try {
            return x.right(signs, towers, r);
        } catch (NoSuchElementException e) {
            return REFUSED;
        }
    }

    private static void oddsOfASlip() {
        DUE.about("each tower shows each SIGN wrong one time in r (2 to 2000)");
        int[] r = {1, 2, 3, 1999, 2000, 2001, 0, -1, -2, MIN, MAX};
        long[] due = {REFUSED, 500_000_000_000_000L, 666_666_666_666_666L, 999_499_749_874_937L,
            999_500_000_000_000L, REFUSED, REFUSED, REFUSED, REFUSED, REFUSED, REFUSED};
        for (int i = 0; i < r.length; i++) {
            DUE.is("right(1, 1, " + r[i] + ")", right(new HillArms(), 1, 1, r[i]), due[i]);
        }
    }

    private static void signsAndTowers() {
        DUE.about("10^15 times (r less 1) by r, cut, k times m times (1 to 60, 1 to 16).");
        int[] signs = {0, 1, 2, 59, 60, 61, -1, MIN, MAX};
        int[] towers = {0, 1, 2, 15, 16, 17, -1, MIN, MAX};
        for (int k : signs) {
            for (int m : towers) {
                boolean told = k >= 1 && k <= 60 && m >= 1 && m <= 16;
                DUE.is("right(" + k + ", " + m + ", 2000)", right(new HillArms(), k, m, 2000),
                        told ? slow(k * m, 2000) : REFUSED);
            }
        }
    }

    private static long slow(int times, int r) {
        long chance = 1_000_000_000_000_000L;
        for (int i = 0; i < times; i++) {
            // what is cut off of a less a / r is what stands behind a's last whole r
            chance -= chance % r == 0 ? chance / r : chance / r + 1;
        }
        return chance;
    }

    private static void cutEachTime() {
        DUE.about("10^15 times (r less 1) by r, cut, k times m times (1 to 60, 1 to 16).");
        HillArms x = new HillArms();
        long[] due = {857_142_857_142_857L, 734_693_877_551_020L, 629_737_609_329_445L,
            539_775_093_710_952L, 462_664_366_037_958L};
        for (int times = 1; times <= due.length; times++) {
            DUE.is("one time in 7, " + times + " SIGNS", x.right(times, 1, 7), due[times - 1]);
            DUE.is("one time in 7, " + times + " towers", x.right(1, times, 7), due[times - 1]);
        }
    }

    private static void nothingLeft() {
        DUE.about("The chance of SLIPS, by 10^15.");
        DUE.about("the chance that k SIGNS pass m towers all right");
        HillArms x = new HillArms();
        DUE.is("48 halves", x.right(16, 3, 2), 3);
        DUE.is("49 halves", x.right(49, 1, 2), 1);
        DUE.is("50 halves", x.right(50, 1, 2), 0);
        DUE.is("960 halves", x.right(60, 16, 2), 0);
        DUE.is("the most, at the best odds", x.right(60, 16, 2000), slow(960, 2000));
    }

    private static void allThree() {
        DUE.about("NoSuchElementException: not as told.");
        HillArms x = new HillArms();
        DUE.is("all wrong", right(x, 0, 0, 1), REFUSED);
        DUE.is("two wrong", right(x, 61, 17, 2), REFUSED);
        DUE.is("two wrong", right(x, 1, 17, 2001), REFUSED);
        DUE.is("right behind that", right(x, 1, 1, 2), 500_000_000_000_000L);
    }

    private static void theObjectsTowersDoNotCount() {
        DUE.about("k times m times (1 to 60, 1 to 16).");
        int[] sizes = {3, 8, 16};
        for (int n : sizes) {
            HillArms x = new HillArms();
            x.towers(n);
            DUE.is("16 towers, TOWERS " + n, right(x, 1, 16, 3), slow(16, 3));
            DUE.is("1 tower, TOWERS " + n, right(x, 60, 1, 3), slow(60, 3));
            DUE.is("17 towers, TOWERS " + n, right(x, 1, 17, 3), REFUSED);
        }
    }
}
