/** Promises 8 (message), 9 (fog), 10 (play), 11 (shown), 12 (cell), 13 (written), 14 (played). */
public final class PlayTest {
    private static final Due DUE = new Due();

    public static void main(String[] args) {
        message();
        fogCalls();
        playCalls();
        whatATowerSees();
        fogGoesBothWays();
        actsGoOneByOne();
        sums();
        marks();
        firstRuleThatHolds();
        timeOfATower();
        allAtOnce();
        sentAndWrite();
        fullBook();
        outcomes();
        still();
        latestPlayStays();
        DUE.end();
    }

    private static HillArms withMessage(HillArms x, int... signs) {
        DUE.is("message", Tapes.message(x, signs), true);
        return x;
    }

    private static void message() {
        HillArms x = new HillArms();
        withMessage(x, 1, 63, 5);
        DUE.is("three SIGNS", x.count(5), 3);
        int[][] wrong = {{0}, {64}, {1, 2, 0}, {255}, {128}, Tapes.full(61, 1)};
        for (int[] signs : wrong) {
            Tapes.put(x, signs);
            DUE.is("message of " + signs.length, x.message(), false);
            DUE.is("it stays", x.count(5), 3);
        }
        withMessage(x, Tapes.full(60, 63));
        DUE.is("sixty SIGNS", x.count(5), 60);
        withMessage(x);
        DUE.is("no SIGN", x.count(5), 0);
    }

    private static void fogCalls() {
        HillArms x = new HillArms();
        x.towers(4);
        int[][] wrong = {{-1, 1, 1}, {3, 1, 1}, {0, 0, 1}, {0, 2, 1}, {0, 1, 501}, {0, 501, 501},
            {0, -5, -5}, {Integer.MAX_VALUE, 1, 1}, {0, Integer.MIN_VALUE, Integer.MAX_VALUE}};
        for (int[] w : wrong) {
            DUE.is("fog " + w[0] + " " + w[1] + " " + w[2], x.fog(w[0], w[1], w[2]), -1);
        }
        DUE.is("none came", x.count(2), 0);
        DUE.is("the last gap", x.fog(2, 1, 500), 0);
        DUE.is("one TICK", x.fog(0, 500, 500), 1);
        for (int i = 2; i < 60; i++) {
            DUE.is("fog " + i, x.fog(0, 1, 1), i);
        }
        DUE.is("a 61st", x.fog(0, 1, 1), -1);
        DUE.is("60 FOGS", x.count(2), 60);
    }

    private static void playCalls() {
        HillArms x = new HillArms();
        int[] wrong = {-1, 501, Integer.MIN_VALUE, Integer.MAX_VALUE};
        for (int ticks : wrong) {
            DUE.is("play(" + ticks + ")", x.play(ticks), -1);
            DUE.is("ahead of any", x.shown(0, 0), -1);
        }
        DUE.is("play(0)", x.play(0), 0);
        DUE.is("TICK 0", x.shown(7, 0), 0);
        DUE.is("no TICK 1", x.shown(0, 1), -1);
        DUE.is("no TICK -1", x.shown(0, -1), -1);
        DUE.is("no tower 8", x.shown(8, 0), -1);
        DUE.is("no tower -1", x.shown(-1, 0), -1);
        DUE.is("no tower MIN", x.shown(Integer.MIN_VALUE, Integer.MAX_VALUE), -1);
        DUE.is("no cell of tower 8", x.cell(8, 0), -1);
        DUE.is("no cell 5", x.cell(0, 5), -1);
        DUE.is("no cell -1", x.cell(0, -1), -1);
        DUE.is("cell d", x.cell(7, 3), 0);
        DUE.is("written(-1)", x.written(-1), -1);
        DUE.is("played(-1)", x.played(-1), -1);
        DUE.is("played(4)", x.played(4), -1);
    }

    private static void whatATowerSees() {
        String tell = "when blind=blind do a is left, b is right, c is word, d is own, show own+5;";
        HillArms x = withMessage(Tapes.line(3, tell, tell, tell), 9);
        x.play(1);
        int[][] first = {{63, 0, 9, 0}, {0, 0, 63, 0}, {0, 63, 63, 0}};
        check(x, first);
        x.play(3);
        int[][] third = {{63, 10, 9, 10}, {10, 10, 63, 10}, {10, 63, 63, 10}};
        check(x, third);
        DUE.is("shown in TICK 3", x.shown(1, 3), 15);
        HillArms y = Tapes.line(3, tell, tell, tell);
        y.play(1);
        DUE.is("no word without a MESSAGE", y.cell(0, 2), 63);
    }

    private static void check(HillArms x, int[][] cells) {
        for (int i = 0; i < cells.length; i++) {
            for (int c = 0; c < 4; c++) {
                DUE.is("cell(" + i + ", " + c + ")", x.cell(i, c), cells[i][c]);
            }
        }
    }

    private static void fogGoesBothWays() {
        String look = "when left=blind do a is a+1; when right=blind do b is b+1;";
        String first = "when right=blind do b is b+1;";
        String last = "when left=blind do a is a+1;";
        HillArms x = Tapes.line(4, first, look, last);
        x.fog(1, 2, 4);
        x.fog(1, 3, 5);
        x.fog(2, 500, 500);
        x.play(10);
        check(x, new int[][] {{0, 0, 0, 0}, {0, 4, 0, 0}, {4, 0, 0, 0}, {0, 0, 0, 0}});
        x.play(500);
        check(x, new int[][] {{0, 0, 0, 0}, {0, 4, 0, 0}, {4, 1, 0, 0}, {1, 0, 0, 0}});
        x.play(2);
        check(x, new int[][] {{0, 0, 0, 0}, {0, 1, 0, 0}, {1, 0, 0, 0}, {0, 0, 0, 0}});
    }

    private static void actsGoOneByOne() {
        String acts = "when a=0 do a is 5, b is a+1, show b, c is own, show own+own, d is own+left;";
        HillArms x = Tapes.line(3, "", acts, "");
        x.play(2);
        check(x, new int[][] {{0, 0, 0, 0}, {5, 6, 6, 12}, {0, 0, 0, 0}});
        DUE.is("shown", x.shown(1, 1), 12);
        HillArms y = withMessage(Tapes.line(3, "when a=0 do a is word, sent, b is word, sent, c is word,"
                + "sent, d is 1;", "", ""), 7, 8);
        y.play(1);
        check(y, new int[][] {{7, 8, 63, 1}, {0, 0, 0, 0}, {0, 0, 0, 0}});
        DUE.is("SENT goes no further than the MESSAGE", y.played(3), 2);
    }

    private static void sums() {
        HillArms x = Tapes.line(3, "", "when a=0 do a is blind, b is blind+blind, c is 99+99, d is 64;",
                "when a=0 do a is 63+1, a is 63, show 60+4;");
        x.play(1);
        check(x, new int[][] {{0, 0, 0, 0}, {63, 62, 6, 0}, {63, 0, 0, 0}});
        DUE.is("shown by 64", x.shown(2, 1), 0);
        HillArms y = Tapes.line(3, "", "", "when time=0 do write blind, write 99, write blind+blind;");
        DUE.is("three are written", y.play(1), 3);
        DUE.is("63", y.written(0), 63);
        DUE.is("35", y.written(1), 35);
        DUE.is("62", y.written(2), 62);
    }

    private static void marks() {
        String[] ones = {"0<1", "1<1", "2<1", "0=1", "1=1", "blind=1", "0>1", "1>1", "2>1", "0#1",
            "1#1", "blind<0", "99>63"};
        int[] due = {1, 0, 0, 0, 1, 0, 0, 0, 1, 1, 0, 1, 1};
        for (int i = 0; i < ones.length; i++) {
            HillArms x = Tapes.line(3, "", "when " + ones[i] + " do a is 1;", "");
            x.play(1);
            DUE.is(ones[i], x.cell(1, 0), due[i]);
        }
    }

    private static void firstRuleThatHolds() {
        HillArms x = Tapes.line(3, "", "when a=0 and b=1 do c is 1; when a=0 and b=0 do c is 2;"
                + "when a=0 do c is 3;", "");
        x.play(1);
        DUE.is("the second one alone", x.cell(1, 2), 2);
        HillArms y = Tapes.line(3, "", "when a=1 and b=0 do c is 1; when b=0 and a=1 do c is 2;", "");
        y.play(1);
        DUE.is("none", y.cell(1, 2), 0);
    }

    private static void timeOfATower() {
        HillArms x = Tapes.line(3, "when time>3 do show own+1;", "when time=2 do show own;", "");
        x.play(4);
        DUE.is("4 TICKS without a change", x.cell(0, 4), 4);
        x.play(5);
        DUE.is("0 behind a change", x.cell(0, 4), 0);
        DUE.is("the same SIGN is none", x.cell(1, 4), 5);
        x.play(9);
        DUE.is("4 again", x.cell(0, 4), 4);
        x.play(99);
        DUE.is("99", x.cell(2, 4), 99);
        x.play(100);
        DUE.is("99 at most", x.cell(2, 4), 99);
        HillArms y = Tapes.line(3, "", "when time=0 do show 4, a is time, show 0;", "");
        y.play(2);
        DUE.is("there and back is no change", y.cell(1, 4), 2);
    }

    private static void allAtOnce() {
        HillArms x = Tapes.line(5, "when own=0 do show 9;", "when left>0 do show left;",
                "when left>0 do show left;");
        x.play(6);
        for (int tower = 0; tower < 5; tower++) {
            for (int tick = 0; tick <= 6; tick++) {
                DUE.is("shown(" + tower + ", " + tick + ")", x.shown(tower, tick),
                        tick > tower ? 9 : 0);
            }
        }
        HillArms y = Tapes.line(3, "", "when right=0 do show 3; when right>0 do show 0;",
                "when left=0 do show 4;");
        y.play(2);
        DUE.is("by the TICK ahead", y.shown(1, 1), 3);
        DUE.is("the right one as it was", y.shown(1, 2), 0);
    }

    private static void sentAndWrite() {
        String both = "when time=0 do sent, write 5;";
        HillArms x = withMessage(Tapes.line(3, "", both, ""), 5);
        DUE.is("others write nothing", x.play(3), 0);
        DUE.is("others send nothing", x.played(3), 0);
        HillArms y = withMessage(Tapes.line(3, both, "", ""), 5);
        DUE.is("the first one writes nothing", y.play(3), 0);
        DUE.is("the first one sends", y.played(3), 1);
        HillArms z = withMessage(Tapes.line(3, "", "", both), 5);
        DUE.is("the last one writes", z.play(3), 1);
        DUE.is("the last one sends nothing", z.played(3), 0);
        DUE.is("what it wrote", z.written(0), 5);
    }

    private static void fullBook() {
        HillArms x = Tapes.line(3, "", "", "when 0=0 do write time;");
        DUE.is("100 at most", x.play(120), 100);
        DUE.is("written(99)", x.written(99), 99 - 64);
        DUE.is("written(100)", x.written(100), -1);
        DUE.is("what is lost changes nothing", x.played(2), 100);
        DUE.is("99 in 99 TICKS", x.play(99), 99);
        HillArms y = Tapes.line(3, "", "", "when 0=0 do write 1, write 2, write 3;");
        DUE.is("100 at most, three a TICK", y.play(34), 100);
        DUE.is("written(99)", y.written(99), 1);
    }

    private static void outcomes() {
        String last = "when time=0 do write 5, write 6;";
        int[][] messages = {{5, 6}, {5, 6, 7}, {5}, {}, {5, 7}, {6, 6}, {5, 7, 7}, {6}};
        int[] how = {0, 1, 2, 2, 2, 2, 2, 2};
        int[] where = {-1, -1, 1, 0, 1, 0, 1, 0};
        for (int i = 0; i < messages.length; i++) {
            HillArms x = withMessage(Tapes.line(3, "", "", last), messages[i]);
            DUE.is("two are written", x.play(1), 2);
            DUE.is("how, message " + i, x.played(0), how[i]);
            DUE.is("where, message " + i, x.played(1), where[i]);
            x.play(0);
            DUE.is("none written, message " + i, x.played(0), messages[i].length == 0 ? 0 : 1);
        }
        HillArms x = withMessage(Tapes.line(3, "", "", "when time=0 do write 0;"), 5);
        x.play(1);
        DUE.is("a written 0 is WRONG", x.played(0), 2);
    }

    private static void still() {
        int[] due = {3, 4, 2, 1, 0, 0};
        HillArms[] lines = {
            Tapes.line(3, "", "when time=2 do show 1;", ""),
            Tapes.line(3, "", "when time=3 do a is 1;", ""),
            Tapes.line(3, "", "", "when time=1 do write 1;"),
            withMessage(Tapes.line(3, "when 0=0 do sent;", "", ""), 4),
            Tapes.line(3, "", "when 0=0 do show 5, show 0, b is 1, b is 0;", ""),
            Tapes.line(3, "when 0=0 do sent, write 4;", "when 0=0 do sent, write 4;", "when 0=0 do sent;")};
        for (int i = 0; i < lines.length; i++) {
            lines[i].play(20);
            DUE.is("STILL of line " + i, lines[i].played(2), due[i]);
        }
        HillArms x = withMessage(Tapes.line(3, "when 0=0 do sent;", "", ""), 4, 4, 4);
        x.play(20);
        DUE.is("like SIGNS to be SENT", x.played(2), 3);
    }

    private static void latestPlayStays() {
        HillArms x = withMessage(Tapes.line(3, "", "", "when time=0 do write 5, a is 3;"), 5);
        x.play(3);
        DUE.is("no such play", x.play(501), -1);
        withMessage(x, 6, 6);
        Tapes.put(x, "");
        x.program(1);
        x.fog(0, 1, 9);
        x.broken(0, 1);
        DUE.is("written", x.written(0), 5);
        DUE.is("WHOLE", x.played(0), 0);
        DUE.is("cell", x.cell(2, 0), 3);
        DUE.is("shown", x.shown(2, 3), 0);
        DUE.is("no TICK 4", x.shown(2, 4), -1);
        x.play(1);
        DUE.is("SHORT now", x.played(0), 1);
        DUE.is("none written now", x.written(0), -1);
    }
}
