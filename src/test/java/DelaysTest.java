import java.util.ArrayList;
import java.util.List;
import java.util.Random;

/** Promises 24 (note), 25 (delay), 26 (look). */
public final class DelaysTest {
    private static final Due DUE = new Due();

    public static void main(String[] args) {
        notes();
        delays();
        asOf();
        quarrels();
        look();
        againstAllDelays();
        DUE.end();
    }

    private static void notes() {
        HillArms x = new HillArms();
        int[][] wrong = {{-1, 0, 5}, {0, 8, 5}, {3, 2, 5}, {8, 8, 5}, {0, 7, 0}, {0, 7, 201},
            {0, 7, -1}, {Integer.MIN_VALUE, 0, 5}, {0, Integer.MAX_VALUE, 5},
            {0, 0, Integer.MAX_VALUE}, {0, 0, Integer.MIN_VALUE}};
        for (int[] w : wrong) {
            DUE.is("note " + w[0] + " " + w[1] + " " + w[2], x.note(w[0], w[1], w[2]), -1);
        }
        DUE.is("none came", x.count(4), 0);
        DUE.is("a tower itself", x.note(7, 7, 1), 0);
        DUE.is("what can't be is noted too", x.note(0, 0, 200), 1);
        for (int i = 2; i < 60; i++) {
            DUE.is("note " + i, x.note(0, 7, 40), i);
        }
        DUE.is("a 61st", x.note(0, 7, 40), -1);
        DUE.is("60 NOTES", x.count(4), 60);
        HillArms y = new HillArms();
        y.towers(16);
        DUE.is("all of 16", y.note(0, 15, 144), 0);
        DUE.is("all take 9", y.delay(15, 0, 0), 9);
    }

    private static void due(HillArms x, int t, int... leastAndMost) {
        for (int i = 0; i < leastAndMost.length; i++) {
            DUE.is("delay(" + i / 2 + ", " + t + ", " + i % 2 + ")", x.delay(i / 2, t, i % 2),
                    leastAndMost[i]);
        }
    }

    private static void delays() {
        HillArms x = new HillArms();
        x.towers(4);
        int[][] none = {{-1, 0, 0}, {4, 0, 0}, {0, 0, -1}, {0, 0, 2}, {Integer.MAX_VALUE, 0, 0},
            {0, 0, Integer.MIN_VALUE}};
        for (int[] w : none) {
            DUE.is("delay " + w[0] + " " + w[1] + " " + w[2], x.delay(w[0], w[1], w[2]), -1);
        }
        due(x, 0, 1, 9, 1, 9, 1, 9, 1, 9);
        x.note(0, 3, 33);
        due(x, 0, 6, 9, 6, 9, 6, 9, 6, 9);
        x.note(0, 1, 16);
        due(x, 0, 7, 9, 7, 9, 8, 9, 8, 9);
        x.note(1, 2, 18);
        due(x, 0, 7, 7, 9, 9, 9, 9, 8, 8);
    }

    private static void asOf() {
        HillArms x = new HillArms();
        x.towers(3);
        x.next(10);
        x.note(0, 0, 4);
        x.next(10);
        x.note(0, 2, 12);
        due(x, Integer.MIN_VALUE, 1, 9, 1, 9, 1, 9);
        due(x, 9, 1, 9, 1, 9, 1, 9);
        due(x, 10, 4, 4, 1, 9, 1, 9);
        due(x, 19, 4, 4, 1, 9, 1, 9);
        due(x, 20, 4, 4, 1, 7, 1, 7);
        due(x, Integer.MAX_VALUE, 4, 4, 1, 7, 1, 7);
        due(x, 10, 4, 4, 1, 9, 1, 9);
        x.note(1, 1, 3);
        due(x, 20, 4, 4, 3, 3, 5, 5);
        HillArms y = new HillArms();
        due(y, 0, 1, 9);
        y.towers(16);
        DUE.is("a tower that came", y.delay(15, 0, 1), 9);
    }

    private static void quarrels() {
        HillArms x = new HillArms();
        x.towers(3);
        x.note(0, 2, 28);
        DUE.is("more than 9 each", x.delay(0, 0, 0), -2);
        DUE.is("look", x.look(0), -2);
        DUE.is("no such tower in a QUARREL", x.delay(3, 0, 0), -1);
        DUE.is("no such what in a QUARREL", x.delay(0, 0, 2), -1);
        DUE.is("not ahead of it", x.delay(0, -1, 1), 9);
        HillArms y = new HillArms();
        y.note(0, 2, 2);
        DUE.is("less than 1 each", y.delay(7, 0, 1), -2);
        HillArms z = new HillArms();
        z.note(0, 7, 30);
        z.note(0, 3, 20);
        DUE.is("as yet", z.delay(4, 0, 1), 7);
        z.next(1);
        z.note(4, 7, 11);
        DUE.is("sums that differ", z.delay(4, 1, 1), -2);
        DUE.is("not on the day ahead", z.delay(4, 0, 1), 7);
        z.note(5, 5, 3);
        DUE.is("once a QUARREL", z.delay(4, 2, 1), -2);
    }

    private static void look() {
        HillArms x = new HillArms();
        x.towers(5);
        DUE.is("all alike", x.look(0), 0);
        x.note(0, 1, 3);
        DUE.is("the first of the others", x.look(0), 2);
        x.note(2, 3, 17);
        DUE.is("the last one", x.look(0), 4);
        x.note(4, 4, 5);
        DUE.is("1 or 2, 8 or 9: the first", x.look(0), 0);
        x.note(0, 0, 1);
        DUE.is("8 or 9", x.look(0), 2);
        x.note(3, 3, 8);
        DUE.is("all known", x.look(0), 0);
        DUE.is("ahead of all", x.look(-1), 0);
    }

    /** All DELAYS of 3 to 5 towers are tried. */
    private static void againstAllDelays() {
        for (int seed = 0; seed < 120; seed++) {
            Random random = new Random(seed);
            HillArms x = new HillArms();
            int n = 3 + random.nextInt(3);
            x.towers(n);
            List<int[]> notes = new ArrayList<>();
            for (int day = 0; day < 4; day++) {
                int from = random.nextInt(n);
                int to = from + random.nextInt(n - from);
                int minutes = (to - from + 1) * (1 + random.nextInt(9)) + random.nextInt(2);
                x.note(from, to, minutes);
                notes.add(new int[] {from, to, minutes});
                int[][] range = ranges(n, notes);
                int widest = 0;
                for (int i = 0; i < n; i++) {
                    DUE.is("seed " + seed + " least of " + i, x.delay(i, day, 0), range[i][0]);
                    DUE.is("seed " + seed + " greatest of " + i, x.delay(i, day, 1), range[i][1]);
                    if (range[i][1] - range[i][0] > range[widest][1] - range[widest][0]) {
                        widest = i;
                    }
                }
                DUE.is("seed " + seed + " look", x.look(day), range[0][0] == -2 ? -2 : widest);
                x.next(1);
            }
        }
    }

    private static int[][] ranges(int n, List<int[]> notes) {
        int[][] range = new int[n][];
        for (int i = 0; i < n; i++) {
            range[i] = new int[] {-2, -2};
        }
        int[] delay = new int[n];
        int all = 1;
        for (int i = 0; i < n; i++) {
            all *= 9;
        }
        for (int code = 0; code < all; code++) {
            int rest = code;
            for (int i = 0; i < n; i++) {
                delay[i] = 1 + rest % 9;
                rest /= 9;
            }
            if (fits(delay, notes)) {
                for (int i = 0; i < n; i++) {
                    boolean none = range[i][0] == -2;
                    range[i][0] = none ? delay[i] : Math.min(range[i][0], delay[i]);
                    range[i][1] = none ? delay[i] : Math.max(range[i][1], delay[i]);
                }
            }
        }
        return range;
    }

    private static boolean fits(int[] delay, List<int[]> notes) {
        for (int[] note : notes) {
            int sum = 0;
            for (int i = note[0]; i <= note[1]; i++) {
                sum += delay[i];
            }
            if (sum != note[2]) {
                return false;
            }
        }
        return true;
    }
}
