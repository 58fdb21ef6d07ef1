/** Promises 15 and 16 at their boundaries; each method stands for the words that it names. */
public final class EdgeBrokenTest {
    private static final Due DUE = new Due();
    private static final int MIN = Integer.MIN_VALUE;
    private static final int MAX = Integer.MAX_VALUE;
    // the last tower writes the MESSAGE, a 1, in TICK 1 or as soon as it has nothing else to do
    private static final String WRITE = "when a=0 do a is 1, write 1;";
    private static final String PASS = "when left=9 do show 9;";

    public static void main(String[] args) {
        ticksOfBroken();
        widthOfFog();
        notAsTold();
        moreThanEightTowers();
        fogInTheLastTickThatCounts();
        theVeryLastFogs();
        toldFogBehindTheSingleOnes();
        fogOfEachTower();
        noneIsNeeded();
        twoAtMost();
        besidesThoseTold();
        tickByTick();
        fromTheFirstTowerOn();
        theFirstOneFirst();
        fogsOfNone();
        theLatestThatToldANumber();
        DUE.end();
    }

    /** Only FOG ahead of the last tower in this one TICK makes it WRONG. */
    private static HillArms brokenIn(int towers, int tick) {
        return Tapes.line(towers, "", "", "when left=blind and time=" + (tick - 1)
                + " do a is 1, write 2;" + WRITE, 1);
    }

    private static void due(HillArms x, int ticks, int wide, int... fogs) {
        String call = "broken(" + ticks + ", " + wide + ")";
        DUE.is(call, x.broken(ticks, wide), fogs.length / 2);
        for (int i = 0; i < 4; i++) {
            DUE.is(call + " fogAt(" + i / 2 + ", " + i % 2 + ")", x.fogAt(i / 2, i % 2),
                    i < fogs.length ? fogs[i] : -1);
        }
        DUE.is(call + " fogAt(2, 0)", x.fogAt(2, 0), -1);
    }

    private static void ticksOfBroken() {
        DUE.about("BROKEN by T (0 to 60) by FOG in the TICKS 1 to W (0 to 10)");
        // FOG is noted, and what it breaks comes in TICK 60
        HillArms x = Tapes.line(3, "", "", "when left=blind do b is 1;" + WRITE
                + "when b=1 and time=59 do write 2;", 1);
        due(x, 0, 10);
        due(x, 1, 10, 1, 1);
        DUE.is("T 2", x.broken(2, 10), 2);
        DUE.is("T 59, one FOG", x.broken(59, 1), -1);
        due(x, 60, 1, 1, 1);
        DUE.is("T 61", x.broken(61, 1), -2);
        DUE.is("T -1", x.broken(-1, 1), -2);
        due(x, 60, 10, 1, 1);
    }

    private static void widthOfFog() {
        DUE.about("BROKEN by T (0 to 60) by FOG in the TICKS 1 to W (0 to 10)");
        for (int tick = 1; tick <= 11; tick++) {
            for (int wide = 0; wide <= 10; wide++) {
                HillArms x = brokenIn(3, tick);
                boolean does = tick <= wide;
                DUE.is("FOG in " + tick + ", W " + wide, x.broken(60, wide), does ? 1 : -1);
                DUE.is("its TICK", x.fogAt(0, 0), does ? tick : -1);
                DUE.is("the tower ahead of it", x.fogAt(0, 1), does ? 1 : -1);
            }
        }
        HillArms x = brokenIn(3, 10);
        DUE.is("W 11", x.broken(60, 11), -2);
        DUE.is("W -1", x.broken(60, -1), -2);
    }

    private static void notAsTold() {
        DUE.about("-2: not as told, or more than 8 TOWERS.");
        HillArms x = brokenIn(3, 10);
        int[] ticks = {-1, 0, 60, 61, MIN, MAX};
        int[] wide = {-1, 0, 10, 11, MIN, MAX};
        for (int t : ticks) {
            for (int w : wide) {
                boolean right = t >= 0 && t <= 60 && w >= 0 && w <= 10;
                int due = !right ? -2 : t == 0 ? 0 : w == 10 ? 1 : -1;
                DUE.is("broken(" + t + ", " + w + ")", x.broken(t, w), due);
            }
        }
    }

    private static void moreThanEightTowers() {
        DUE.about("-2: not as told, or more than 8 TOWERS.");
        for (int n = 3; n <= 16; n++) {
            HillArms x = brokenIn(n, 3);
            DUE.is("broken of " + n + " TOWERS", x.broken(10, 5), n <= 8 ? 1 : -2);
            DUE.is("the tower ahead of it", x.fogAt(0, 1), n <= 8 ? n - 2 : -1);
        }
        HillArms x = brokenIn(8, 3);
        x.towers(9);
        DUE.is("one more", x.broken(10, 5), -2);
        x.towers(8);
        DUE.is("and back", x.broken(10, 5), 1);
    }

    private static void fogInTheLastTickThatCounts() {
        DUE.about("with which it is not WHOLE when PLAYED for T");
        for (int tick = 1; tick <= 10; tick++) {
            HillArms x = brokenIn(3, tick);
            DUE.is("FOG in " + tick + ", T one less", x.broken(tick - 1, 10), tick == 1 ? 0 : -1);
            due(x, tick, 10, tick, 1);
            due(x, tick + 1, 10, tick, 1);
        }
        // FOG that keeps the one SIGN back for a TICK counts as long as there is no TICK more
        HillArms x = Tapes.line(3, "", "", "when left#blind and a=0 do a is 1, write 1;", 1);
        due(x, 0, 10);
        due(x, 1, 10, 1, 1);
        due(x, 2, 10, 1, 1, 2, 1);
        DUE.is("T 3", x.broken(3, 10), -1);
        DUE.is("T 1, no FOG", x.broken(1, 0), -1);
        DUE.is("T 2, FOG in one TICK", x.broken(2, 1), -1);
    }

    private static void theVeryLastFogs() {
        DUE.about("BROKEN by T (0 to 60) by FOG in the TICKS 1 to W (0 to 10)");
        due(brokenIn(8, 10), 60, 10, 10, 6);
        // both sides of tower 6 of 8 in TICK 10, and of tower 1 in TICK 1
        String last = "when left=9 and b=0 do b is 1, write 2;" + WRITE;
        due(Tapes.line(8, "", "when left=blind and right=blind and time=9 do show 9;", last, 1), 60, 10,
                10, 5, 10, 6);
        due(Tapes.line(8, "", "when left=blind and right=blind and time=0 do show 9;" + PASS, last, 1),
                60, 10, 1, 0, 1, 1);
        // the first tower blind in TICK 1 and in TICK 10
        due(Tapes.line(8, "when right=blind and time=0 do a is 1;"
                + "when right=blind and time=9 and a=1 do show 9;", PASS, last, 1), 60, 10, 1, 0, 10, 0);
    }

    private static void toldFogBehindTheSingleOnes() {
        DUE.about("besides those told, two at most,");
        // WRONG only if the first tower is blind in TICK 2 and, by told FOG, in TICK 5 but not in 6
        HillArms x = Tapes.line(3, "when right=blind and time=1 do a is 1;"
                + "when right=blind and time=4 and a=1 do b is 1;"
                + "when right=blind and time=5 do b is 0; when time=7 and b=1 do show 9;", PASS,
                "when left=9 and b=0 do b is 1, write 2;" + WRITE, 1);
        DUE.is("no FOG told: two", x.broken(20, 10), 2);
        x.fog(0, 5, 5);
        due(x, 20, 4, 2, 0);
        DUE.is("W 1", x.broken(20, 1), -1);
        x.fog(0, 6, 6);
        DUE.is("told in TICK 6, too", x.broken(20, 4), -1);
    }

    private static void fogOfEachTower() {
        DUE.about("the fewest single FOGS (between two towers, in one TICK)");
        for (int n = 3; n <= 8; n++) {
            HillArms last = brokenIn(n, 2);
            due(last, 9, 4, 2, n - 2);
            // the first tower's alarm comes to the last one in TICK n
            HillArms first = Tapes.line(n, "when right=blind and time=0 do show 9;", PASS,
                    "when left=9 and b=0 do b is 1, write 2;" + WRITE, 1);
            due(first, n, 4, 1, 0);
            DUE.is("not yet", first.broken(n - 1, 4), -1);
        }
    }

    private static void noneIsNeeded() {
        DUE.about("BROKEN: how many FOGS (0, 1, 2); NONE: two don't do;");
        HillArms empty = Tapes.line(3, "", "", "");
        DUE.is("an empty MESSAGE, T 0", empty.broken(0, 0), -1);
        DUE.is("an empty MESSAGE, T 60", empty.broken(60, 10), -1);
        HillArms sent = Tapes.line(3, "", "", "", 1);
        due(sent, 0, 0);
        due(sent, 60, 10);
        HillArms wrong = Tapes.line(3, "", "", "when time=5 do write 2;" + WRITE, 1);
        due(wrong, 6, 10);
        DUE.is("ahead of that", wrong.broken(5, 10), -1);
        DUE.is("W 0", wrong.broken(5, 0), -1);
    }

    /** It is WRONG behind the third TICK in which the last tower is blind. */
    private static HillArms brokenByThree(int from, int to) {
        HillArms x = Tapes.line(3, "", "", "when b=3 and c=0 do c is 1, write 2;"
                + "when left=blind do b is b+1;" + WRITE, 1);
        x.fog(1, from, to);
        return x;
    }

    private static void twoAtMost() {
        DUE.about("besides those told, two at most,");
        HillArms none = brokenByThree(0, 0);
        DUE.is("no FOG told", none.count(2), 0);
        DUE.is("three are needed", none.broken(20, 10), -1);
        due(brokenByThree(12, 12), 20, 10, 1, 1, 2, 1);
        due(brokenByThree(12, 13), 20, 10, 1, 1);
        due(brokenByThree(12, 14), 20, 10);
        due(brokenByThree(12, 15), 20, 10);
    }

    private static void besidesThoseTold() {
        DUE.about("besides those told, two at most,");
        due(brokenByThree(1, 1), 20, 10, 2, 1, 3, 1);
        due(brokenByThree(2, 2), 20, 10, 1, 1, 3, 1);
        due(brokenByThree(1, 2), 20, 10, 3, 1);
        due(brokenByThree(1, 3), 20, 10);
        due(brokenByThree(10, 10), 20, 10, 1, 1, 2, 1);
        DUE.is("W 1 has one TICK alone", brokenByThree(12, 12).broken(20, 1), -1);
        due(brokenByThree(12, 12), 20, 2, 1, 1, 2, 1);
        DUE.is("W 2, of which one is told", brokenByThree(2, 2).broken(20, 2), -1);
    }

    private static void tickByTick() {
        DUE.about("of like ones the first: TICK by TICK, in each from the first tower on;");
        String first = "when right=blind and time=1 do show 9;";
        String alarm = "when left=9 and b=0 do b is 1, write 2;";
        String blind = "when left=blind and time=0 do a is 1, write 2;";
        due(Tapes.line(3, first, PASS, alarm + WRITE, 1), 9, 5, 2, 0);
        due(Tapes.line(3, "", PASS, blind + WRITE, 1), 9, 5, 1, 1);
        due(Tapes.line(3, first, PASS, blind + alarm + WRITE, 1), 9, 5, 1, 1);
    }

    private static void fromTheFirstTowerOn() {
        DUE.about("of like ones the first: TICK by TICK, in each from the first tower on;");
        String alarm = "when left=9 and b=0 do b is 1, write 2;";
        String blind = "when left=blind and time=3 do write 2;";
        for (int n = 3; n <= 8; n++) {
            due(Tapes.line(n, "when right=blind and time=3 do show 9;", PASS, alarm + WRITE + blind, 1),
                    20, 5, 4, 0);
            due(Tapes.line(n, "", "when left=blind and time=3 do show 9;" + PASS,
                    alarm + WRITE + blind, 1), 20, 5, 4, 0);
            due(Tapes.line(n, "", "when right=blind and time=3 do show 9;" + PASS,
                    alarm + WRITE + blind, 1), 20, 5, 4, 1);
        }
    }

    private static void theFirstOneFirst() {
        DUE.about("of two the first one first.");
        // either both sides of tower 1 in TICK 2, or the last tower in TICK 1 and in a later one
        String others = "when left=blind and right=blind and time=1 do show 9;";
        String last = "when left=9 and d=0 do d is 1, write 2; when left=blind and time=0 do b is 1;"
                + "when left=blind and time>1 and b=1 do write 2;" + WRITE;
        HillArms x = Tapes.line(3, "", others, last, 1);
        DUE.is("W 1", x.broken(9, 1), -1);
        due(x, 9, 2, 2, 0, 2, 1);
        due(x, 9, 3, 1, 1, 3, 1);
        due(x, 9, 10, 1, 1, 3, 1);
        // the first FOG brings the last tower to where it would be a TICK later anyway
        due(Tapes.line(3, "", "", "when left=blind and a=2 do write 2; when left=blind and a=0 do a is 2;"
                + "when a<2 do a is a+1; when b=0 do b is 1, write 1;", 1), 9, 2, 1, 1, 2, 1);
        // of pairs in one TICK: round tower 1, if it is passed on from there, else round tower 2
        due(Tapes.line(4, "", others + PASS, last, 1), 9, 2, 2, 0, 2, 1);
        due(Tapes.line(4, "", others, last, 1), 9, 2, 2, 1, 2, 2);
    }

    private static void fogsOfNone() {
        DUE.about("Of the k-th FOG of the latest broken() that told a number: 0 its TICK, 1 the tower ahead of it. NONE: there is none such, another what, or ahead of any.");
        int[] k = {-1, 0, 1, 2, MIN, MAX};
        int[] what = {-1, 0, 1, 2, MIN, MAX};
        HillArms[] some = {brokenByThree(12, 14), brokenByThree(12, 13), brokenByThree(12, 12)};
        int[][] fogs = {{}, {1, 1}, {1, 1, 2, 1}};
        for (int i = 0; i < some.length; i++) {
            for (int askedK : k) {
                DUE.is("ahead of any", some[i].fogAt(askedK, 0), -1);
            }
            DUE.is("FOGS", some[i].broken(20, 10), i);
            for (int askedK : k) {
                for (int w : what) {
                    boolean right = askedK >= 0 && askedK < i && w >= 0 && w <= 1;
                    DUE.is("fogAt(" + askedK + ", " + w + ") of " + i, some[i].fogAt(askedK, w),
                            right ? fogs[i][2 * askedK + w] : -1);
                }
            }
        }
    }

    private static void theLatestThatToldANumber() {
        DUE.about("Of the k-th FOG of the latest broken() that told a number:");
        HillArms x = brokenByThree(12, 12);
        DUE.is("two", x.broken(20, 10), 2);
        DUE.is("two don't do", x.broken(20, 1), -1);
        DUE.is("not as told", x.broken(61, 1), -2);
        DUE.is("not as told", x.broken(60, 11), -2);
        x.play(20);
        x.fog(1, 13, 13);
        int[] due = {1, 1, 2, 1};
        for (int i = 0; i < 4; i++) {
            DUE.is("it stays", x.fogAt(i / 2, i % 2), due[i]);
        }
        DUE.is("one now", x.broken(20, 10), 1);
        DUE.is("the first", x.fogAt(0, 0), 1);
        DUE.is("no second", x.fogAt(1, 0), -1);
        DUE.is("none is needed", x.broken(0, 10), 0);
        DUE.is("no first", x.fogAt(0, 0), -1);
        HillArms y = brokenIn(8, 3);
        y.broken(9, 9);
        y.towers(9);
        DUE.is("more than 8 TOWERS", y.broken(9, 9), -2);
        DUE.is("it stays", y.fogAt(0, 1), 6);
        HillArms z = new HillArms();
        DUE.is("two don't do", z.broken(9, 1), -1);
        DUE.is("behind NONE alone", z.fogAt(0, 0), -1);
    }
}
