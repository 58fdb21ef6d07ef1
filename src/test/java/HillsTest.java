import java.util.Random;

/** Promises 27 (hills), 28 (hillSet). */
public final class HillsTest {
    private static final Due DUE = new Due();

    public static void main(String[] args) {
        wrongCalls();
        oneDay();
        moreDays();
        lesserHillsAreNotSeen();
        edges();
        againstTheOracle();
        DUE.end();
    }

    private static void wrongCalls() {
        HillArms x = new HillArms();
        int[] wrong = {2, 15, 0, -1, -3, Integer.MIN_VALUE, Integer.MAX_VALUE};
        for (int n : wrong) {
            DUE.is("hills(" + n + ")", Tapes.hills(x, n, 2, 4, 0), -2);
        }
        DUE.is("two HILLS", Tapes.hills(x, 2, 2, 0), -2);
        DUE.is("fifteen HILLS", Tapes.hills(x, 15, new int[15]), -2);
        DUE.is("no day", Tapes.hills(x, 3), -2);
        DUE.is("half a day", Tapes.hills(x, 3, 2, 4), -2);
        DUE.is("a day and a half", Tapes.hills(x, 4, 2, 4, 8, 0, 2, 4), -2);
        Tapes.put(x, 0, 2, 0, 4, 0);
        DUE.is("half a pair", x.hills(3), -2);
        DUE.is("nine days", Tapes.hills(x, 3, new int[27]), -2);
        DUE.is("ahead of any", x.hillSet(), 0);
        DUE.is("eight days", Tapes.hills(x, 3, new int[24]), -1);
        DUE.is("none told a number", x.hillSet(), 0);
    }

    private static void oneDay() {
        HillArms x = new HillArms();
        DUE.is("straight", Tapes.hills(x, 3, 4, 0, 0), 2);
        DUE.is("set", x.hillSet(), 5);
        DUE.is("by the middle", Tapes.hills(x, 3, 2, 4, 0), 3);
        DUE.is("set", x.hillSet(), 7);
        DUE.is("not at all", Tapes.hills(x, 3, 2, 2, 0), -1);
        DUE.is("not as told", Tapes.hills(x, 2, 2, 2), -2);
        DUE.is("the set stays", x.hillSet(), 7);
        DUE.is("the least of like ones", Tapes.hills(x, 5, 2 | 4 | 8, 16, 16, 16, 0), 3);
        DUE.is("set", x.hillSet(), 1 | 2 | 16);
        DUE.is("the fewest", Tapes.hills(x, 5, 2 | 8, 4, 8, 16, 0), 3);
        DUE.is("set", x.hillSet(), 1 | 8 | 16);
    }

    private static void moreDays() {
        HillArms x = new HillArms();
        DUE.is("one for each day", Tapes.hills(x, 4, 2, 8, 0, 0, 4, 0, 8, 0), 4);
        DUE.is("set", x.hillSet(), 15);
        DUE.is("one for both days", Tapes.hills(x, 5, 2 | 4, 16, 16, 0, 0, 8 | 4, 0, 16, 16, 0), 3);
        DUE.is("set", x.hillSet(), 1 | 4 | 16);
        DUE.is("a day is lost", Tapes.hills(x, 3, 4, 0, 0, 0, 4, 0), -1);
    }

    private static void lesserHillsAreNotSeen() {
        HillArms x = new HillArms();
        DUE.is("not back", Tapes.hills(x, 4, 4, 8, 2, 0), -1);
        DUE.is("not itself", Tapes.hills(x, 3, 1, 2, 4), -1);
        DUE.is("no other HILLS", Tapes.hills(x, 3, 0xfff8, 0xfff8, 0xffff), -1);
        DUE.is("but these", Tapes.hills(x, 3, 0xffff, 0xffff, 0xffff), 2);
    }

    private static void edges() {
        HillArms x = new HillArms();
        int[] chain = new int[14];
        for (int i = 0; i < 14; i++) {
            chain[i] = 2 << i;
        }
        DUE.is("fourteen in a chain", Tapes.hills(x, 14, chain), 14);
        DUE.is("set", x.hillSet(), (1 << 14) - 1);
        int[] days = new int[14 * 8];
        for (int day = 0; day < 8; day++) {
            days[14 * day] = 2 << day;
            days[14 * day + 1 + day] = 1 << 13;
        }
        DUE.is("eight days", Tapes.hills(x, 14, days), 10);
        DUE.is("set", x.hillSet(), 511 | 1 << 13);
    }

    private static void againstTheOracle() {
        HillArms x = new HillArms();
        Oracle y = new Oracle();
        for (int seed = 0; seed < 300; seed++) {
            Random random = new Random(seed);
            if (seed % 20 == 0) {
                x = new HillArms();
                y = new Oracle();
            }
            int n = 3 + random.nextInt(seed % 10 == 0 ? 12 : 6);
            int[] bytes = new int[2 * n * (1 + random.nextInt(4))];
            for (int i = 0; i < bytes.length; i++) {
                bytes[i] = random.nextInt(256) & (random.nextBoolean() ? 255 : random.nextInt(256));
            }
            Tapes.put(x, bytes);
            y.end(0);
            for (int at = 0; at < bytes.length; at += 4) {
                y.feed(Tapes.four(bytes, at));
            }
            y.end(bytes.length);
            DUE.is("seed " + seed, x.hills(n), y.hills(n));
            DUE.is("seed " + seed + " set", x.hillSet(), y.hillSet());
        }
    }
}
