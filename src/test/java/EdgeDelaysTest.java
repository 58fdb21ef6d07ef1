/** Promises 24 to 26 at their boundaries; each method stands for the words that it names. */
public final class EdgeDelaysTest {
    private static final Due DUE = new Due();
    private static final int MIN = Integer.MIN_VALUE;
    private static final int MAX = Integer.MAX_VALUE;

    public static void main(String[] args) {
        towersOfANote();
        minutesOfANote();
        sixtyNotes();
        oneToNineMinutes();
        allTogether();
        aTowerItself();
        toldOnTOrAhead();
        quarrel();
        delayOfNone();
        noneAheadOfAQuarrel();
        lookAsOf();
        furthestAbove();
        ofLikeOnesTheFirst();
        DUE.end();
    }

    private static HillArms towers(int n) {
        HillArms x = new HillArms();
        x.towers(n);
        return x;
    }

    private static void range(HillArms x, int tower, int t, int least, int greatest) {
        DUE.is("delay(" + tower + ", " + t + ", 0)", x.delay(tower, t, 0), least);
        DUE.is("delay(" + tower + ", " + t + ", 1)", x.delay(tower, t, 1), greatest);
    }

    private static void towersOfANote() {
        DUE.about("no such towers (the second not ahead of the first)");
        int[] sizes = {3, 8, 16};
        for (int n : sizes) {
            int[] some = {-1, 0, 1, n - 2, n - 1, n, MIN, MAX};
            for (int from : some) {
                for (int to : some) {
                    HillArms x = towers(n);
                    boolean right = from >= 0 && to < n && from <= to;
                    DUE.is("note(" + from + ", " + to + ", 9) of " + n, x.note(from, to, 9), right ? 0 : -1);
                    DUE.is("NOTES then", x.count(4), right ? 1 : 0);
                    DUE.is("TOWERS are free", x.towers(n), !right);
                }
            }
        }
    }

    private static void minutesOfANote() {
        DUE.about("or minutes not 1 to 200.");
        int[] minutes = {-1, 0, 1, 2, 199, 200, 201, MIN, MAX};
        for (int m : minutes) {
            boolean right = m >= 1 && m <= 200;
            HillArms x = new HillArms();
            DUE.is("note(0, 7, " + m + ")", x.note(0, 7, m), right ? 0 : -1);
            DUE.is("NOTES then", x.count(4), right ? 1 : 0);
            DUE.is("look then", x.look(0), right ? -2 : 0);
        }
    }

    private static void sixtyNotes() {
        DUE.about("A NOTE: its number; NONE: there are 60,");
        HillArms x = towers(3);
        for (int i = 0; i < 60; i++) {
            DUE.is("note " + i, x.note(0, 2, 6), i);
            DUE.is("one not as told is not counted", x.note(2, 0, 6), -1);
        }
        DUE.is("a 61st", x.note(0, 0, 1), -1);
        DUE.is("NOTES then", x.count(4), 60);
        range(x, 0, 0, 1, 4);
        // the 60th is weighed
        HillArms y = towers(3);
        for (int i = 0; i < 59; i++) {
            y.note(0, 2, 6);
        }
        DUE.is("the 60th", y.note(0, 0, 3), 59);
        range(y, 0, 0, 3, 3);
        range(y, 1, 0, 1, 2);
    }

    private static void oneToNineMinutes() {
        DUE.about("DELAYS: each tower takes 1 to 9 minutes.");
        range(new HillArms(), 0, 0, 1, 9);
        range(new HillArms(), 7, 999, 1, 9);
        for (int minutes = 1; minutes <= 11; minutes++) {
            HillArms x = towers(3);
            x.note(1, 1, minutes);
            int due = minutes <= 9 ? minutes : -2;
            range(x, 1, 0, due, due);
            range(x, 0, 0, minutes <= 9 ? 1 : -2, minutes <= 9 ? 9 : -2);
        }
    }

    private static void allTogether() {
        DUE.about("from a tower to a tower (itself, too) all together take so many.");
        int[] sizes = {3, 8, 16};
        for (int n : sizes) {
            int[] minutes = {n - 1, n, n + 1, 9 * n - 1, 9 * n, 9 * n + 1};
            int[] least = {-2, 1, 1, 8, 9, -2};
            int[] greatest = {-2, 1, 2, 9, 9, -2};
            for (int i = 0; i < minutes.length; i++) {
                HillArms x = towers(n);
                x.note(0, n - 1, minutes[i]);
                range(x, 0, 0, least[i], greatest[i]);
                range(x, n - 1, 0, least[i], greatest[i]);
            }
        }
        // from 1 to 2 alone: the towers beside them are free
        HillArms x = towers(4);
        x.note(1, 2, 17);
        range(x, 0, 0, 1, 9);
        range(x, 1, 0, 8, 9);
        range(x, 2, 0, 8, 9);
        range(x, 3, 0, 1, 9);
        // two that overlap, and what lies between
        x.note(0, 1, 3);
        range(x, 1, 0, -2, -2);
    }

    private static void aTowerItself() {
        DUE.about("from a tower to a tower (itself, too) all together take so many.");
        for (int tower = 0; tower < 16; tower++) {
            HillArms x = towers(16);
            DUE.is("note of " + tower, x.note(tower, tower, 5), 0);
            for (int other = Math.max(0, tower - 1); other <= Math.min(15, tower + 1); other++) {
                range(x, other, 0, other == tower ? 5 : 1, other == tower ? 5 : 9);
            }
        }
    }

    private static void toldOnTOrAhead() {
        DUE.about("NOTES (60), told on TODAY: from a tower to a tower");
        DUE.about("The least DELAY (what 0), the greatest one (1) of a tower AS OF t;");
        DUE.about("AS OF t (those told on t or ahead): the least, the greatest DELAY that a tower may have;");
        HillArms x = towers(3);
        x.note(0, 0, 2);
        x.next(500);
        x.note(1, 1, 3);
        x.next(499);
        x.note(2, 2, 4);
        int[] t = {MIN, -1, 0, 1, 499, 500, 501, 998, 999, 1000, MAX};
        int[] told = {0, 0, 1, 1, 1, 2, 2, 2, 3, 3, 3};
        for (int i = 0; i < t.length; i++) {
            for (int tower = 0; tower < 3; tower++) {
                boolean known = tower < told[i];
                range(x, tower, t[i], known ? 2 + tower : 1, known ? 2 + tower : 9);
            }
            DUE.is("look(" + t[i] + ")", x.look(t[i]), told[i] == 3 ? 0 : told[i]);
        }
        // one told later on the same day counts on that day
        HillArms y = towers(3);
        y.next(7);
        y.note(0, 0, 2);
        range(y, 1, 7, 1, 9);
        y.note(1, 1, 3);
        range(y, 1, 7, 3, 3);
        range(y, 1, 6, 1, 9);
        y.next(1);
        range(y, 1, 6, 1, 9);
        range(y, 1, 7, 3, 3);
    }

    private static void quarrel() {
        DUE.about("QUARREL: no DELAYS fit.");
        HillArms x = towers(3);
        x.note(0, 2, 27);
        range(x, 0, 0, 9, 9);
        x.next(1);
        x.note(0, 0, 8);
        range(x, 0, 1, -2, -2);
        DUE.is("look", x.look(1), -2);
        range(x, 0, 0, 9, 9);
        DUE.is("look on the day ahead", x.look(0), 0);
        x.next(1);
        x.note(0, 0, 9);
        range(x, 0, 2, -2, -2);
        range(x, 2, 2, -2, -2);
        // sums that fit by one minute, and that don't
        for (int minutes = 9; minutes <= 21; minutes++) {
            HillArms y = towers(4);
            y.note(0, 1, 10);
            y.note(2, 3, 4);
            y.note(0, 3, minutes);
            DUE.is("10 and 4 are " + minutes, y.look(0), minutes == 14 ? 0 : -2);
        }
        // 0 to 1 take 10, 1 to 2 take m: tower 1 is what both have
        for (int minutes = 1; minutes <= 19; minutes++) {
            HillArms y = towers(3);
            y.note(0, 1, 10);
            y.note(1, 2, minutes);
            boolean fits = minutes >= 2 && minutes <= 18;
            DUE.is("1 to 2 take " + minutes, y.delay(1, 0, 0), !fits ? -2 : Math.max(1, minutes - 9));
            DUE.is("1 to 2 take " + minutes, y.delay(1, 0, 1), !fits ? -2 : Math.min(9, minutes - 1));
        }
    }

    private static void delayOfNone() {
        DUE.about("NONE: no such tower, what; -2: a QUARREL.");
        int[] sizes = {3, 8, 16};
        for (int n : sizes) {
            int[] some = {-1, 0, n - 1, n, MIN, MAX};
            int[] what = {-1, 0, 1, 2, MIN, MAX};
            HillArms x = towers(n);
            for (int tower : some) {
                for (int w : what) {
                    boolean right = tower >= 0 && tower < n && w >= 0 && w <= 1;
                    DUE.is("delay(" + tower + ", 0, " + w + ") of " + n, x.delay(tower, 0, w),
                            !right ? -1 : w == 0 ? 1 : 9);
                }
            }
        }
        HillArms x = towers(3);
        range(x, 2, 0, 1, 9);
        DUE.is("no tower 3", x.delay(3, 0, 0), -1);
        x.towers(16);
        range(x, 15, 0, 1, 9);
        x.towers(4);
        range(x, 3, 0, 1, 9);
        x.towers(3);
        DUE.is("gone again", x.delay(3, 0, 0), -1);
    }

    private static void noneAheadOfAQuarrel() {
        DUE.about("NONE: no such tower, what; -2: a QUARREL.");
        HillArms x = towers(3);
        x.note(0, 0, 10);
        DUE.is("a QUARREL", x.delay(2, 0, 1), -2);
        DUE.is("no such tower", x.delay(3, 0, 1), -1);
        DUE.is("no such what", x.delay(2, 0, 2), -1);
        DUE.is("no QUARREL yet", x.delay(2, -1, 1), 9);
    }

    private static void lookAsOf() {
        DUE.about("The tower to LOOK AT AS OF t; -2: a QUARREL.");
        HillArms x = towers(3);
        x.next(3);
        x.note(0, 0, 4);
        x.next(2);
        x.note(1, 1, 4);
        x.next(2);
        x.note(1, 1, 5);
        int[] t = {MIN, -1, 0, 2, 3, 4, 5, 6, 7, 8, 999, 1000, MAX};
        int[] due = {0, 0, 0, 0, 1, 1, 2, 2, -2, -2, -2, -2, -2};
        for (int i = 0; i < t.length; i++) {
            DUE.is("look(" + t[i] + ")", x.look(t[i]), due[i]);
        }
    }

    private static void furthestAbove() {
        DUE.about("LOOK AT the tower the greatest DELAY of which is furthest above the least one;");
        HillArms x = towers(4);
        x.note(0, 2, 5);
        range(x, 2, 0, 1, 3);
        range(x, 3, 0, 1, 9);
        DUE.is("the last one", x.look(0), 3);
        x.note(3, 3, 9);
        DUE.is("not the one with the greatest DELAY", x.look(0), 0);
        x.note(0, 0, 1);
        DUE.is("of 1 to 3", x.look(0), 1);
        HillArms y = towers(16);
        y.note(0, 14, 15);
        DUE.is("the last of 16", y.look(0), 15);
    }

    private static void ofLikeOnesTheFirst() {
        DUE.about("LOOK AT the tower the greatest DELAY of which is furthest above the least one; of like ones the first.");
        int[] sizes = {3, 8, 16};
        for (int n : sizes) {
            HillArms x = towers(n);
            for (int known = 0; known < n; known++) {
                DUE.is("look at " + n + " with " + known + " known", x.look(0), known);
                x.note(known, known, 9);
            }
            DUE.is("all are known", x.look(0), 0);
            DUE.is("ahead of all", x.look(-1), 0);
            x.note(0, 0, 8);
            DUE.is("a QUARREL", x.look(0), -2);
        }
    }
}
