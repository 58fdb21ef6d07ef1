import java.math.BigInteger;
import java.util.NoSuchElementException;

/** Promise 23 (right). */
public final class SlipsTest {
    private static final Due DUE = new Due();

    public static void main(String[] args) {
        HillArms x = new HillArms();
        DUE.is("1 1 2", x.right(1, 1, 2), 500_000_000_000_000L);
        DUE.is("1 1 3", x.right(1, 1, 3), 666_666_666_666_666L);
        DUE.is("cut each time", x.right(1, 2, 3), 444_444_444_444_444L);
        DUE.is("cut each time", x.right(3, 1, 3), 296_296_296_296_296L);
        DUE.is("1 1 2000", x.right(1, 1, 2000), 999_500_000_000_000L);
        DUE.is("nothing is left", x.right(60, 16, 2), 0);
        DUE.is("49 times by 2", x.right(7, 7, 2), 1);
        DUE.is("50 times by 2", x.right(10, 5, 2), 0);
        for (int r = 2; r <= 2000; r += 37) {
            x = new HillArms();
            for (int k = 1; k <= 60; k += 13) {
                for (int m = 1; m <= 16; m += 5) {
                    DUE.is("right(" + k + ", " + m + ", " + r + ")", x.right(k, m, r), slow(k * m, r));
                }
            }
        }
        DUE.is("60 16 2000", x.right(60, 16, 2000), slow(960, 2000));
        int[][] wrong = {{0, 1, 2}, {61, 1, 2}, {1, 0, 2}, {1, 17, 2}, {1, 1, 1}, {1, 1, 0},
            {1, 1, 2001}, {-1, 1, 2}, {1, -1, 2}, {1, 1, -2}, {Integer.MAX_VALUE, 1, 2},
            {1, Integer.MIN_VALUE, 2}, {1, 1, Integer.MAX_VALUE}};
        for (int[] w : wrong) {
            DUE.is("right(" + w[0] + ", " + w[1] + ", " + w[2] + ") throws", throwsIt(x, w), true);
        }
        x.towers(3);
        DUE.is("it's not about these TOWERS", x.right(1, 16, 2), slow(16, 2));
        DUE.end();
    }

    private static boolean throwsIt(HillArms x, int[] w) {
        try {
            x.right(w[0], w[1], w[2]);
            return false;
        } catch (NoSuchElementException e) {
            return true;
        }
    }

    private static long slow(int times, int r) {
        BigInteger chance = BigInteger.TEN.pow(15);
        for (int i = 0; i < times; i++) {
            chance = chance.multiply(BigInteger.valueOf(r - 1)).divide(BigInteger.valueOf(r));
        }
        return chance.longValueExact();
    }
}
