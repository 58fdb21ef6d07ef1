/** Promises 8 to 14 at their boundaries; each method stands for the words that it names. */
public final class EdgePlayTest {
    private static final Due DUE = new Due();
    private static final int MIN = Integer.MIN_VALUE;
    private static final int MAX = Integer.MAX_VALUE;
    // the MESSAGE goes through, a SIGN a TICK: tower i shows the k-th one in TICK k + i + 1
    private static final String SEND = "when word#blind do show word, sent; when own#0 do show 0;";
    private static final String PASS = "when left#own do show left;";
    private static final String TAKE = "when left>0 do write left;";
    // a tower shows in each TICK whether it is blind
    private static final String LEFT_BLIND = "when left=blind do show 1; when own=1 do show 0;";
    private static final String RIGHT_BLIND = "when right=blind do show 1; when own=1 do show 0;";

    public static void main(String[] args) {
        signsOfTheMessage();
        aWrongMessage();
        theMessageStays();
        fogOfATower();
        fogOfTicks();
        sixtyFogs();
        fogInItsTicks();
        fogBetweenTheTwo();
        ticksOfAPlay();
        tickZero();
        signsAndCellsOfATower();
        allTowersAtOnce();
        withoutANeighbour();
        wordBehindTheLastOne();
        firstRuleAllOnesOfWhichHold();
        unlikeAndTheOthers();
        actByAct();
        by64();
        sentGoesNoFurther();
        aFullBook();
        nobodyElseWritesOrSends();
        nothingIsDone();
        timeOfATower();
        wholeShortOrWrong();
        stillAtItsEnds();
        shownOfNone();
        cellOfNone();
        writtenOfNone();
        playedOfEach();
        playedOfNone();
        theLatestPlayThatWasOne();
        DUE.end();
    }

    private static int[] upTo(int length) {
        int[] signs = new int[length];
        for (int i = 0; i < length; i++) {
            signs[i] = 1 + i % 63;
        }
        return signs;
    }

    private static void signsOfTheMessage() {
        DUE.about("MESSAGE: 0 to 60 SIGNS 1 to 63.");
        int[] lengths = {0, 1, 2, 59, 60};
        for (int length : lengths) {
            HillArms x = Tapes.line(3, SEND, PASS, TAKE, upTo(length));
            DUE.is("SIGNS of the MESSAGE", x.count(5), length);
            DUE.is("they come through", x.play(100), length);
            DUE.is("all of them", x.played(0), 0);
            DUE.is("all are SENT", x.played(3), length);
            DUE.is("the last one", x.written(length - 1), length == 0 ? -1 : length);
        }
        int[] lots = {61, 62, 440};
        for (int length : lots) {
            DUE.is(length + " SIGNS", Tapes.message(new HillArms(), Tapes.full(length, 1)), false);
        }
        for (int sign = 0; sign < 256; sign++) {
            boolean right = sign >= 1 && sign <= 63;
            HillArms x = new HillArms();
            DUE.is("a MESSAGE of " + sign, Tapes.message(x, sign), right);
            DUE.is("SIGNS then", x.count(5), right ? 1 : 0);
        }
    }

    private static void aWrongMessage() {
        DUE.about("false, and it stays: not as told.");
        int[] wrong = {0, 64};
        for (int sign : wrong) {
            for (int at = 0; at < 3; at++) {
                int[] signs = {1, 63, 2};
                signs[at] = sign;
                HillArms x = new HillArms();
                DUE.is(sign + " as SIGN " + at, Tapes.message(x, signs), false);
                DUE.is("SIGNS then", x.count(5), 0);
            }
        }
        int[] last = upTo(60);
        last[59] = 64;
        DUE.is("the 60th SIGN is wrong", Tapes.message(new HillArms(), last), false);
    }

    private static void theMessageStays() {
        DUE.about("The tape's bytes are the MESSAGE now: true; false, and it stays: not as told.");
        HillArms x = Tapes.line(3, SEND, PASS, TAKE, 5, 6, 7);
        int[][] wrong = {{8, 9, 0}, {64}, {0}, Tapes.full(61, 9)};
        for (int[] signs : wrong) {
            DUE.is("not as told", Tapes.message(x, signs), false);
            DUE.is("SIGNS then", x.count(5), 3);
            DUE.is("the same ones", x.play(20), 3);
            for (int k = 0; k < 3; k++) {
                DUE.is("SIGN " + k, x.written(k), 5 + k);
            }
        }
        DUE.is("a shorter one", Tapes.message(x, 9), true);
        DUE.is("it alone", x.play(20), 1);
        DUE.is("its SIGN", x.written(0), 9);
        DUE.is("an empty one", Tapes.message(x), true);
        DUE.is("none at all", x.play(20), 0);
    }

    private static void fogOfATower() {
        DUE.about("FOG between tower g and the next one from a TICK to a TICK");
        int[] sizes = {3, 8, 16};
        for (int n : sizes) {
            int[] g = {-1, 0, n - 2, n - 1, n, MIN, MAX};
            for (int i = 0; i < g.length; i++) {
                HillArms x = new HillArms();
                x.towers(n);
                boolean right = g[i] >= 0 && g[i] <= n - 2;
                DUE.is("fog behind " + g[i] + " of " + n, x.fog(g[i], 1, 1), right ? 0 : -1);
                DUE.is("FOGS then", x.count(2), right ? 1 : 0);
            }
        }
    }

    private static void fogOfTicks() {
        DUE.about("(1 to 500, the second not ahead of the first)");
        int[][] right = {{1, 1}, {1, 2}, {1, 500}, {499, 500}, {500, 500}, {2, 2}};
        int[][] wrong = {{0, 0}, {0, 1}, {0, 500}, {1, 0}, {2, 1}, {500, 499}, {1, 501}, {500, 501},
            {501, 501}, {-1, 1}, {MIN, MAX}, {1, MAX}, {MIN, 1}, {MAX, MIN}};
        for (int[] ticks : right) {
            DUE.is("fog from " + ticks[0] + " to " + ticks[1],
                    new HillArms().fog(0, ticks[0], ticks[1]), 0);
        }
        for (int[] ticks : wrong) {
            HillArms x = new HillArms();
            DUE.is("fog from " + ticks[0] + " to " + ticks[1], x.fog(0, ticks[0], ticks[1]), -1);
            DUE.is("FOGS then", x.count(2), 0);
            DUE.is("TOWERS are free", x.towers(3), true);
        }
    }

    private static void sixtyFogs() {
        DUE.about("its number; NONE: there are 60, or not as told.");
        HillArms x = Tapes.line(3, "", LEFT_BLIND, "");
        for (int i = 0; i < 60; i++) {
            DUE.is("fog " + i, x.fog(0, 3 * i + 1, 3 * i + 1), i);
            DUE.is("one not as told is not counted", x.fog(0, 0, 1), -1);
        }
        DUE.is("a 61st", x.fog(0, 181, 300), -1);
        DUE.is("FOGS then", x.count(2), 60);
        x.play(300);
        for (int tick = 1; tick <= 300; tick++) {
            boolean foggy = tick % 3 == 1 && tick < 180;
            DUE.is("blind in TICK " + tick, x.shown(1, tick), foggy ? 1 : 0);
        }
    }

    private static void fogInItsTicks() {
        DUE.about("-1 without one, or if there is FOG between the two in this TICK");
        int[][] fogs = {{1, 1}, {1, 3}, {5, 9}, {498, 500}, {500, 500}};
        for (int[] fog : fogs) {
            HillArms x = Tapes.line(3, "", LEFT_BLIND, "");
            x.fog(0, fog[0], fog[1]);
            x.play(500);
            for (int tick = Math.max(1, fog[0] - 2); tick <= Math.min(500, fog[1] + 2); tick++) {
                boolean foggy = tick >= fog[0] && tick <= fog[1];
                DUE.is("blind in TICK " + tick, x.shown(1, tick), foggy ? 1 : 0);
            }
            x.play(fog[0] - 1);
            DUE.is("not yet", x.shown(1, fog[0] - 1), 0);
            DUE.is("nothing but SIGN 0", x.played(2), 0);
        }
        HillArms x = Tapes.line(3, "", LEFT_BLIND, "");
        x.fog(0, 2, 3);
        x.fog(0, 4, 5);
        x.fog(0, 3, 4);
        x.fog(0, 7, 7);
        x.play(8);
        int[] due = {0, 0, 1, 1, 1, 1, 0, 1, 0};
        for (int tick = 0; tick < due.length; tick++) {
            DUE.is("FOGS one beside another, TICK " + tick, x.shown(1, tick), due[tick]);
        }
    }

    private static void fogBetweenTheTwo() {
        DUE.about("FOG (60): between a tower and the next one, from a TICK to a TICK.");
        int n = 6;
        for (int g = 0; g < n - 1; g++) {
            HillArms left = Tapes.line(n, LEFT_BLIND, LEFT_BLIND, LEFT_BLIND);
            HillArms right = Tapes.line(n, RIGHT_BLIND, RIGHT_BLIND, RIGHT_BLIND);
            left.fog(g, 2, 2);
            right.fog(g, 2, 2);
            left.play(2);
            right.play(2);
            for (int tower = 0; tower < n; tower++) {
                DUE.is("left of " + tower + ", FOG behind " + g, left.shown(tower, 2),
                        tower == 0 || tower == g + 1 ? 1 : 0);
                DUE.is("right of " + tower + ", FOG behind " + g, right.shown(tower, 2),
                        tower == n - 1 || tower == g ? 1 : 0);
            }
        }
    }

    private static void ticksOfAPlay() {
        DUE.about("PLAYED for T TICKS (0 to 500): WRITTEN is the BOOK;");
        DUE.about("PLAYED for T TICKS: how many SIGNS are WRITTEN; NONE: no such T.");
        int[] ticks = {-1, 0, 1, 2, 499, 500, 501, MIN, MAX};
        for (int t : ticks) {
            HillArms x = Tapes.line(3, "", "", "when own=0 do show 1;");
            boolean right = t >= 0 && t <= 500;
            DUE.is("play(" + t + ")", x.play(t), right ? 0 : -1);
            DUE.is("its last TICK", x.shown(2, t), !right ? -1 : t == 0 ? 0 : 1);
            DUE.is("one more", x.shown(2, right ? t + 1 : 0), -1);
            DUE.is("its TIME", x.cell(2, 4), !right ? -1 : t == 0 ? 0 : Math.min(99, t - 1));
        }
        // the 500th TICK is played: cells count the TICKS by 64
        HillArms x = Tapes.line(3, "", "", "when a=63 do a is 0, b is b+1; when 0=0 do a is a+1;");
        x.play(500);
        DUE.is("500 TICKS", x.cell(2, 1) * 64 + x.cell(2, 0), 500);
        x.play(499);
        DUE.is("499 TICKS", x.cell(2, 1) * 64 + x.cell(2, 0), 499);
        DUE.is("no SIGN", x.play(0), 0);
    }

    private static void tickZero() {
        DUE.about("TICK 0: all show 0, CELLS, TIME 0.");
        String busy = "when 0=0 do show own+1, a is 1, b is 2, c is 3, d is 4;";
        HillArms x = Tapes.line(16, busy, busy, busy, 5);
        x.play(3);
        x.play(0);
        for (int tower = 0; tower < 16; tower++) {
            DUE.is("SIGN of " + tower, x.shown(tower, 0), 0);
            for (int c = 0; c <= 4; c++) {
                DUE.is("CELL " + c + " of " + tower, x.cell(tower, c), 0);
            }
        }
        x.play(1);
        DUE.is("each play begins anew", x.shown(7, 1), 1);
        DUE.is("TICK 0 of it", x.shown(7, 0), 0);
    }

    private static void signsAndCellsOfATower() {
        DUE.about("Each shows a SIGN 0 to 63, has four CELLS a, b, c, d (0 to 63) and a TIME.");
        String up = "when 0=0 do show own+1, a is a+1, b is b+2, c is c+63, d is d+blind;";
        HillArms x = Tapes.line(3, up, up, up);
        int[] ticks = {0, 1, 2, 31, 32, 33, 62, 63, 64, 65, 500};
        for (int t : ticks) {
            x.play(t);
            int[] due = {t % 64, 2 * t % 64, (64 - t % 64) % 64, (64 - t % 64) % 64};
            for (int tower = 0; tower < 3; tower++) {
                DUE.is("SIGN in TICK " + t, x.shown(tower, t), t % 64);
                for (int c = 0; c < 4; c++) {
                    DUE.is("CELL " + c + " in TICK " + t, x.cell(tower, c), due[c]);
                }
            }
        }
        // each tower has CELLS of its own
        HillArms y = Tapes.line(16, "when a=0 do a is 1, d is 4;", "when left=blind do b is 2;",
                "when c=0 do c is 3;");
        y.fog(6, 1, 1);
        y.play(2);
        for (int tower = 0; tower < 16; tower++) {
            int[] due = {tower == 0 ? 1 : 0, tower == 7 ? 2 : 0, tower == 15 ? 3 : 0, tower == 0 ? 4 : 0};
            for (int c = 0; c < 4; c++) {
                DUE.is("CELL " + c + " of tower " + tower, y.cell(tower, c), due[c]);
            }
        }
    }

    private static void allTowersAtOnce() {
        DUE.about("In each TICK 1, 2, .. all TOWERS at once, by what was shown in the TICK ahead:");
        int n = 6;
        String start = "when own=0 do show 9;";
        HillArms right = Tapes.line(n, start, "when left>own do show left;", "when left>own do show left;");
        HillArms left = Tapes.line(n, "when right>own do show right;", "when right>own do show right;", start);
        right.play(n + 1);
        left.play(n + 1);
        for (int tick = 0; tick <= n + 1; tick++) {
            for (int tower = 0; tower < n; tower++) {
                DUE.is("from the left, tower " + tower + " in TICK " + tick, right.shown(tower, tick),
                        tick > tower ? 9 : 0);
                DUE.is("from the right, tower " + tower + " in TICK " + tick, left.shown(tower, tick),
                        tick > n - 1 - tower ? 9 : 0);
            }
        }
    }

    private static void withoutANeighbour() {
        DUE.about("'left', 'right': the SIGN of that neighbour; -1 without one, or if there is FOG between the two in this TICK");
        String tell = "when 0=0 do a is left, b is right;";
        int[] sizes = {3, 16};
        for (int n : sizes) {
            HillArms x = Tapes.line(n, tell, tell, tell);
            x.play(1);
            for (int tower = 0; tower < n; tower++) {
                DUE.is("left of " + tower, x.cell(tower, 0), tower == 0 ? 63 : 0);
                DUE.is("right of " + tower, x.cell(tower, 1), tower == n - 1 ? 63 : 0);
            }
        }
        String[] ones = {"left=blind", "left<0", "left#0"};
        for (String one : ones) {
            HillArms x = Tapes.line(3, "when " + one + " do show 2;", "when " + one + " do show 2;", "");
            x.play(1);
            DUE.is(one + " of the first tower", x.shown(0, 1), 2);
            DUE.is(one + " of the next one", x.shown(1, 1), 0);
        }
        // with more towers at first, the last one's right neighbour is gone
        HillArms x = Tapes.line(4, "", "when own=0 do show 9;", "when right=blind do show 4;");
        x.play(2);
        x.towers(3);
        x.play(2);
        DUE.is("no tower 3 now", x.shown(2, 1), 4);
    }

    private static void wordBehindTheLastOne() {
        DUE.about("of the first tower the SIGN of the MESSAGE that is to be SENT next (-1 behind the last one), of others -1; 'blind' is -1.");
        String tell = "when 0=0 do d is c, c is b, b is a, a is word, sent;";
        int[][] messages = {{}, {9}, {9, 1}, {9, 1, 63}};
        for (int[] message : messages) {
            HillArms x = Tapes.line(3, tell, tell, tell, message);
            x.play(4);
            for (int tick = 1; tick <= 4; tick++) {
                int due = tick <= message.length ? message[tick - 1] : 63;
                DUE.is("word in TICK " + tick, x.cell(0, 4 - tick), due);
                DUE.is("word of tower 1", x.cell(1, 4 - tick), 63);
                DUE.is("word of the last one", x.cell(2, 4 - tick), 63);
            }
        }
        HillArms x = Tapes.line(3, "when word=blind do show 1;", "when word=blind do show 1;",
                "when blind<0 and word=blind do show 1;", 63);
        x.play(1);
        DUE.is("63 is not -1", x.shown(0, 1), 0);
        DUE.is("-1 of others", x.shown(1, 1), 1);
        DUE.is("-1 of the last one", x.shown(2, 1), 1);
    }

    private static void firstRuleAllOnesOfWhichHold() {
        DUE.about("The first RULE all ONES of which hold is done");
        String[] rules = {"when 0=0 do a is 1; when 0=0 do a is 2;", "when 0=1 do a is 1; when 0=0 do a is 2;",
            "when 0=0 and 0=1 do a is 1; when 0=0 do a is 2;",
            "when 0=1 and 0=0 do a is 1; when 0=0 do a is 2;",
            "when 0=0 and 0=0 and 0=1 do a is 1; when 0=0 and 1=1 do a is 2;",
            "when 0=1 do a is 1; when 0=1 do a is 2;",
            "when 0=0 do b is 1; when b=1 do a is 9;"};
        int[] due = {1, 2, 2, 2, 2, 0, 0};
        for (int i = 0; i < rules.length; i++) {
            HillArms x = Tapes.line(3, "", rules[i], "");
            x.play(1);
            DUE.is(rules[i], x.cell(1, 0), due[i]);
        }
        HillArms x = Tapes.line(3, "", "when a=1 do b is 1;".repeat(19) + "when a=0 do c is 7;", "");
        x.play(1);
        DUE.is("the 20th RULE alone", x.cell(1, 2), 7);
        x = Tapes.line(3, "", "when 0=0" + " and 0=0".repeat(38) + " and a=0 do a is 5;", "");
        x.play(2);
        DUE.is("the 40th ONE held once", x.cell(1, 0), 5);
        x = Tapes.line(3, "", "when a=0 do a is 1" + ",b is b+1".repeat(39) + ";", "");
        x.play(3);
        DUE.is("all of 40 ACTS", x.cell(1, 1), 39);
    }

    private static void unlikeAndTheOthers() {
        DUE.about("R one of < = > # (unlike).");
        char[] marks = {'<', '=', '>', '#'};
        int[][] due = {{1, 0, 0}, {0, 1, 0}, {0, 0, 1}, {1, 0, 1}};
        for (int i = 0; i < marks.length; i++) {
            for (int left = 4; left <= 6; left++) {
                HillArms x = Tapes.line(3, "", "when " + left + marks[i] + "5 do a is 1;", "");
                x.play(1);
                DUE.is(left + " " + marks[i] + " 5", x.cell(1, 0), due[i][left - 4]);
            }
            for (int right = -1; right <= 1; right++) {
                String value = right == -1 ? "blind" : "" + right;
                HillArms x = Tapes.line(3, "", "when a" + marks[i] + value + " do a is 1;", "");
                x.play(1);
                DUE.is("0 " + marks[i] + " " + value, x.cell(1, 0), due[i][1 - right]);
            }
        }
    }

    private static void actByAct() {
        DUE.about("ACT by ACT, each by what is so then (left, right as they were)");
        String both = "when own=0 do show 5, a is own, b is a+own, a is left, show own+1, c is own, d is time;";
        HillArms x = Tapes.line(3, both, both, "when own=0 do a is left, show 8, b is left;");
        x.play(1);
        int[][] due = {{63, 10, 6, 0}, {0, 10, 6, 0}, {0, 0, 0, 0}};
        for (int tower = 0; tower < 3; tower++) {
            for (int c = 0; c < 4; c++) {
                DUE.is("CELL " + c + " of " + tower, x.cell(tower, c), due[tower][c]);
            }
        }
        DUE.is("SIGN", x.shown(1, 1), 6);
        x = Tapes.line(3, "when a=0 do a is word, sent, b is word, sent, c is word;", "", "", 3, 4);
        x.play(1);
        DUE.is("word, the first one", x.cell(0, 0), 3);
        DUE.is("word, SENT once", x.cell(0, 1), 4);
        DUE.is("word, SENT twice", x.cell(0, 2), 63);
        x = Tapes.line(3, "", "when time=2 do show 1, a is time, show 2, b is time, d is 1;", "");
        x.play(3);
        DUE.is("TIME as it was", x.cell(1, 0), 2);
        DUE.is("TIME as it was", x.cell(1, 1), 2);
    }

    private static void by64() {
        DUE.about("both by 64, the rest (0 to 63; of -1 63, of -2 62)");
        String[] sums = {"0", "1", "63", "64", "65", "99", "blind", "blind+blind", "blind+1", "blind+0",
            "0+blind", "63+1", "63+0", "62+1", "63+63", "63+64", "64+64", "99+99", "blind+64",
            "a+blind", "own+blind"};
        int[] due = {0, 1, 63, 0, 1, 35, 63, 62, 0, 63, 63, 0, 63, 63, 62, 63, 0, 6, 63, 63, 63};
        for (int i = 0; i < sums.length; i++) {
            String acts = "when time=0 do d is " + sums[i] + ", write " + sums[i] + ", show " + sums[i] + ";";
            HillArms x = Tapes.line(3, acts, acts, acts);
            x.play(1);
            for (int tower = 0; tower < 3; tower++) {
                DUE.is("CELL of " + sums[i], x.cell(tower, 3), due[i]);
                DUE.is("SIGN of " + sums[i], x.shown(tower, 1), due[i]);
            }
            DUE.is("WRITTEN of " + sums[i], x.written(0), due[i]);
        }
    }

    private static void sentGoesNoFurther() {
        DUE.about("'sent': the first tower goes on to the next SIGN of the MESSAGE (others: nothing)");
        for (int length = 0; length <= 3; length++) {
            HillArms x = Tapes.line(3, "when 0=0 do sent;", "", "", upTo(length));
            for (int ticks = 0; ticks <= 5; ticks++) {
                x.play(ticks);
                DUE.is("SENT of " + length + " in " + ticks, x.played(3), Math.min(ticks, length));
                DUE.is("STILL of " + length + " in " + ticks, x.played(2), Math.min(ticks, length));
            }
        }
        HillArms x = Tapes.line(3, "when 0=0 do sent" + ",sent".repeat(39) + ";", "", "", upTo(60));
        x.play(1);
        DUE.is("40 at once", x.played(3), 40);
        x.play(2);
        DUE.is("60 of 80", x.played(3), 60);
    }

    private static void aFullBook() {
        DUE.about("(100 at most, more are lost; others: nothing)");
        HillArms x = Tapes.line(3, "", "", "when 0=0 do write a, a is a+1;");
        int[] ticks = {0, 1, 99, 100, 101, 500};
        for (int t : ticks) {
            int due = Math.min(t, 100);
            DUE.is("WRITTEN in " + t, x.play(t), due);
            DUE.is("the last one", x.written(due - 1), due == 0 ? -1 : (due - 1) % 64);
            DUE.is("one more", x.written(due), -1);
        }
        DUE.is("CELLS go on", x.cell(2, 0), 500 % 64);
        x = Tapes.line(3, "", "", "when 0=0 do write 1, write 2, write 3;");
        DUE.is("99 by threes", x.play(33), 99);
        DUE.is("the 99th", x.written(98), 3);
        DUE.is("100 by threes", x.play(34), 100);
        DUE.is("the 100th", x.written(99), 1);
        DUE.is("no 101st", x.written(100), -1);
        DUE.is("no more changes", x.play(40), 100);
        DUE.is("STILL", x.played(2), 34);
    }

    private static void nobodyElseWritesOrSends() {
        DUE.about("'write': the last tower writes the SUM likewise into its BOOK");
        String both = "when time=0 do sent, write 5;";
        int[] sizes = {3, 4, 16};
        for (int n : sizes) {
            HillArms first = Tapes.line(n, both, "", "", 5);
            DUE.is("the first of " + n + " writes", first.play(3), 0);
            DUE.is("the first of " + n + " sends", first.played(3), 1);
            HillArms others = Tapes.line(n, "", both, "", 5);
            DUE.is("others of " + n + " write", others.play(3), 0);
            DUE.is("others of " + n + " send", others.played(3), 0);
            DUE.is("nothing changes", others.played(2), 0);
            HillArms last = Tapes.line(n, "", "", both, 5);
            DUE.is("the last of " + n + " writes", last.play(3), 1);
            DUE.is("the last of " + n + " sends", last.played(3), 0);
        }
    }

    private static void nothingIsDone() {
        DUE.about("Without such a RULE nothing is done.");
        HillArms x = Tapes.line(3, "when own>0 do sent;", "when left>0 do show 1; when a=1 do b is 1;",
                "when left=blind do write 1;", 4);
        DUE.is("WRITTEN", x.play(200), 0);
        for (int what = 2; what <= 3; what++) {
            DUE.is("played(" + what + ")", x.played(what), 0);
        }
        for (int tower = 0; tower < 3; tower++) {
            DUE.is("SIGN", x.shown(tower, 200), 0);
            DUE.is("CELL", x.cell(tower, 1), 0);
            DUE.is("TIME goes on", x.cell(tower, 4), 99);
        }
    }

    private static void timeOfATower() {
        DUE.about("Then TIME is 0, if the SIGN is another one than ahead of the TICK, else 1 more (99 at most).");
        HillArms x = new HillArms();
        int[] ticks = {0, 1, 98, 99, 100, 101, 500};
        int[] due = {0, 1, 98, 99, 99, 99, 99};
        for (int i = 0; i < ticks.length; i++) {
            x.play(ticks[i]);
            DUE.is("TIME behind TICK " + ticks[i], x.cell(0, 4), due[i]);
        }
        x = Tapes.line(3, "when time=99 do show 1;", "when time=98 do show 1;", "when time>99 do show 1;");
        x.play(99);
        DUE.is("98 is told in TICK 99", x.shown(1, 99), 1);
        DUE.is("TIME is 0 then", x.cell(1, 4), 0);
        DUE.is("99 is not yet", x.shown(0, 99), 0);
        x.play(100);
        DUE.is("99 is told in TICK 100", x.shown(0, 100), 1);
        DUE.is("TIME is 0 then", x.cell(0, 4), 0);
        DUE.is("TIME of the other one", x.cell(1, 4), 1);
        x.play(500);
        DUE.is("never above 99", x.shown(2, 500), 0);
        x = Tapes.line(3, "when 0=0 do show own;", "when 0=0 do show own+1;", "when 0=0 do show 1, show 0;");
        x.play(7);
        DUE.is("the same SIGN shown", x.cell(0, 4), 7);
        DUE.is("another one each TICK", x.cell(1, 4), 0);
        DUE.is("there and back", x.cell(2, 4), 7);
    }

    private static void wholeShortOrWrong() {
        DUE.about("it is WHOLE, if it is the MESSAGE, SHORT, if a beginning of it that is less, else WRONG, at the first place that is unlike (or behind the MESSAGE).");
        String[] books = {"", "write 5,", "write 5, write 6,", "write 5, write 6, write 7,", "write 6,",
            "write 5, write 7,", "write 0,", "write 5, write 6, write 7, write 7,"};
        int[][] messages = {{}, {5}, {5, 6}, {5, 6, 7}};
        int[][] how = {{0, 1, 1, 1}, {2, 0, 1, 1}, {2, 2, 0, 1}, {2, 2, 2, 0}, {2, 2, 2, 2}, {2, 2, 2, 2},
            {2, 2, 2, 2}, {2, 2, 2, 2}};
        int[][] where = {{-1, -1, -1, -1}, {0, -1, -1, -1}, {0, 1, -1, -1}, {0, 1, 2, -1}, {0, 0, 0, 0},
            {0, 1, 1, 1}, {0, 0, 0, 0}, {0, 1, 2, 3}};
        for (int b = 0; b < books.length; b++) {
            for (int m = 0; m < messages.length; m++) {
                HillArms x = Tapes.line(3, "", "", "when time=0 do " + books[b] + " a is 1;", messages[m]);
                x.play(1);
                DUE.is("how '" + books[b] + "' is of " + m, x.played(0), how[b][m]);
                DUE.is("where '" + books[b] + "' is WRONG of " + m, x.played(1), where[b][m]);
            }
        }
        HillArms x = Tapes.line(3, SEND, PASS, TAKE, upTo(60));
        x.play(61);
        DUE.is("59 of 60", x.played(0), 1);
        x.play(62);
        DUE.is("60 of 60", x.played(0), 0);
        x = Tapes.line(3, "", "", "when 0=0 do write 1;", Tapes.full(60, 1));
        x.play(60);
        DUE.is("60 of 60", x.played(0), 0);
        x.play(61);
        DUE.is("a 61st", x.played(0), 2);
        DUE.is("behind the MESSAGE", x.played(1), 60);
        x.play(500);
        DUE.is("the first place still", x.played(1), 60);
    }

    private static void stillAtItsEnds() {
        DUE.about("STILL: the last TICK in which a SIGN, a CELL, the BOOK or what is to be SENT changed (0: none).");
        String[][] lines = {{"", "when time=4 do show 1;", ""}, {"", "when time=4 do d is 1;", ""},
            {"", "", "when time=4 do write 1;"}, {"when time=4 do sent;", "", ""},
            {"when time=4 do show 1;", "", ""}, {"", "", "when time=4 do a is 1;"}};
        for (String[] line : lines) {
            HillArms x = Tapes.line(3, line[0], line[1], line[2], 7);
            int[] ticks = {0, 4, 5, 6, 500};
            int[] due = {0, 0, 5, 5, 5};
            for (int i = 0; i < ticks.length; i++) {
                x.play(ticks[i]);
                DUE.is("STILL in " + ticks[i] + " of " + line[0] + line[1] + line[2], x.played(2), due[i]);
            }
        }
        HillArms x = Tapes.line(3, "", "when 0=0 do show own+1;", "");
        x.play(500);
        DUE.is("the last TICK of all", x.played(2), 500);
        x = Tapes.line(3, "", "when time=0 do a is 1; when time=1 do a is 1;", "");
        x.play(9);
        DUE.is("the same once more is no change", x.played(2), 1);
        x = Tapes.line(3, "when time=0 do sent; when time=3 do sent;", "", "when time=6 do write 1;");
        x.play(5);
        DUE.is("TIME alone is no change, nothing is to be SENT", x.played(2), 0);
    }

    private static void shownOfNone() {
        DUE.about("What a tower showed in a TICK of the latest play() that was not NONE; NONE: no such ones, or ahead of any.");
        HillArms x = Tapes.line(4, "", "when 0=0 do show own+1;", "");
        int[] values = {-1, 0, 1, 3, 4, MIN, MAX};
        for (int tower : values) {
            for (int tick : values) {
                DUE.is("ahead of any", x.shown(tower, tick), -1);
            }
        }
        x.play(3);
        for (int tower : values) {
            for (int tick : values) {
                boolean right = tower >= 0 && tower < 4 && tick >= 0 && tick <= 3;
                int due = !right ? -1 : tower == 1 ? tick : 0;
                DUE.is("shown(" + tower + ", " + tick + ")", x.shown(tower, tick), due);
            }
        }
        x.play(1);
        DUE.is("TICK 1 of a shorter play", x.shown(1, 1), 1);
        DUE.is("TICK 2 of a longer one ahead", x.shown(1, 2), -1);
        x.towers(16);
        x.play(500);
        DUE.is("the last of 16 in TICK 500", x.shown(15, 500), 0);
        DUE.is("the one ahead of it", x.shown(14, 500), 500 % 64);
        DUE.is("a 17th", x.shown(16, 500), -1);
        DUE.is("TICK 501", x.shown(15, 501), -1);
    }

    private static void cellOfNone() {
        DUE.about("The CELL c (0 for a, .. 3) of a tower at the end of that; 4 its TIME. NONE likewise.");
        HillArms x = Tapes.line(3, "", "", "when a=0 do a is 11, b is 12, c is 13, d is 14;");
        DUE.is("ahead of any", x.cell(2, 0), -1);
        DUE.is("TIME ahead of any", x.cell(2, 4), -1);
        x.play(501);
        DUE.is("behind NONE alone", x.cell(2, 0), -1);
        x.play(6);
        int[] c = {-1, 0, 1, 2, 3, 4, 5, MIN, MAX};
        int[] due = {-1, 11, 12, 13, 14, 6, -1, -1, -1};
        for (int i = 0; i < c.length; i++) {
            DUE.is("cell(2, " + c[i] + ")", x.cell(2, c[i]), due[i]);
            DUE.is("cell(3, " + c[i] + ")", x.cell(3, c[i]), -1);
            DUE.is("cell(-1, " + c[i] + ")", x.cell(-1, c[i]), -1);
        }
        DUE.is("cell(MIN, 0)", x.cell(MIN, 0), -1);
        DUE.is("cell(MAX, 4)", x.cell(MAX, 4), -1);
        DUE.is("the first tower", x.cell(0, 4), 6);
    }

    private static void writtenOfNone() {
        DUE.about("The k-th SIGN WRITTEN in that; NONE: there is none such, or ahead of any.");
        HillArms x = Tapes.line(3, "", "", "when time<3 do write time+7;");
        DUE.is("ahead of any", x.written(0), -1);
        int[] ticks = {0, 1, 2, 3, 4, 500};
        for (int t : ticks) {
            int count = Math.min(t, 3);
            DUE.is("play(" + t + ")", x.play(t), count);
            for (int k = -1; k <= 4; k++) {
                DUE.is("written(" + k + ") of " + count, x.written(k), k >= 0 && k < count ? 7 + k : -1);
            }
        }
        int[] wrong = {MIN, MAX, 99, 100, 101};
        for (int k : wrong) {
            DUE.is("written(" + k + ")", x.written(k), -1);
        }
        x.play(1);
        DUE.is("what a longer play wrote is gone", x.written(1), -1);
    }

    private static void playedOfEach() {
        DUE.about("Of that: 0 whether it is WHOLE (0), SHORT (1), WRONG (2), 1 the place where it is WRONG (NONE), 2 STILL, 3 how many SIGNS were SENT.");
        HillArms x = Tapes.line(3, "when time=1 do sent, sent;", "", "when time=0 do write 5;"
                + "when time=3 do write 6; when time=5 do write 7;", 5, 6);
        int[][] due = {{1, -1, 0, 0}, {1, -1, 1, 0}, {1, -1, 2, 2}, {1, -1, 2, 2}, {0, -1, 4, 2},
            {0, -1, 4, 2}, {2, 2, 6, 2}, {2, 2, 6, 2}};
        for (int ticks = 0; ticks < due.length; ticks++) {
            x.play(ticks);
            for (int what = 0; what < 4; what++) {
                DUE.is("played(" + what + ") behind " + ticks, x.played(what), due[ticks][what]);
            }
        }
    }

    private static void playedOfNone() {
        DUE.about("NONE for another what, or ahead of any.");
        HillArms x = Tapes.line(3, "when time=0 do sent;", "", "when time=1 do write 4;", 5);
        int[] what = {-1, 0, 1, 2, 3, 4, MIN, MAX};
        int[] due = {-1, 2, 0, 2, 1, -1, -1, -1};
        for (int w : what) {
            DUE.is("ahead of any", x.played(w), -1);
        }
        DUE.is("no such T", x.play(-1), -1);
        DUE.is("behind NONE alone", x.played(2), -1);
        x.play(5);
        for (int i = 0; i < what.length; i++) {
            DUE.is("played(" + what[i] + ")", x.played(what[i]), due[i]);
        }
        x.play(0);
        int[] none = {-1, 1, -1, 0, 0, -1, -1, -1};
        for (int i = 0; i < what.length; i++) {
            DUE.is("played(" + what[i] + ") behind play(0)", x.played(what[i]), none[i]);
        }
    }

    private static void theLatestPlayThatWasOne() {
        DUE.about("of the latest play() that was not NONE;");
        HillArms x = Tapes.line(3, "when time=0 do sent;", "when time=0 do show 3, a is 4;",
                "when time=1 do write 5;", 5);
        x.play(2);
        x.play(501);
        x.play(-1);
        Tapes.message(x, 7, 7, 7);
        for (int kind = 0; kind < 3; kind++) {
            Tapes.program(x, kind, "");
        }
        x.towers(9);
        x.towers(5);
        x.fog(0, 1, 500);
        x.broken(5, 2);
        DUE.is("shown", x.shown(1, 2), 3);
        DUE.is("no TICK 3", x.shown(1, 3), -1);
        DUE.is("no tower 3", x.shown(3, 0), -1);
        DUE.is("cell", x.cell(1, 0), 4);
        DUE.is("written", x.written(0), 5);
        int[] due = {0, -1, 2, 1};
        for (int what = 0; what < 4; what++) {
            DUE.is("played(" + what + ")", x.played(what), due[what]);
        }
    }
}
