import java.util.Random;

/** Promises 15 (broken), 16 (fogAt). */
public final class BrokenTest {
    private static final Due DUE = new Due();
    private static final String FIRST = "when own=0 and right=0 and word#blind do show word;"
            + "when own#0 and right=own do show 0, sent;";
    private static final String OTHERS = "when own=0 and left>0 do show left;"
            + "when left=0 and right=own do show 0;";
    private static final String LAST = "when own=0 and left>0 do show left, write left;"
            + "when left=0 do show 0;";

    public static void main(String[] args) {
        wrongCalls();
        fewest();
        twoInOneTick();
        toldFogCounts();
        timeCounts();
        timeAloneCounts();
        timeInEveryRule();
        sentAloneCounts();
        whatIsWrittenAloneCounts();
        latestStays();
        againstTheOracle();
        DUE.end();
    }

    private static void fogs(HillArms x, int... due) {
        for (int i = 0; i < due.length; i++) {
            DUE.is("fogAt(" + i / 2 + ", " + i % 2 + ")", x.fogAt(i / 2, i % 2), due[i]);
        }
        DUE.is("no more FOGS", x.fogAt(due.length / 2, 0), -1);
        DUE.is("fogAt(-1, 0)", x.fogAt(-1, 0), -1);
        DUE.is("fogAt(MAX, 0)", x.fogAt(Integer.MAX_VALUE, 0), -1);
        DUE.is("fogAt(0, 2)", x.fogAt(0, 2), -1);
        DUE.is("fogAt(0, -1)", x.fogAt(0, -1), -1);
    }

    private static void wrongCalls() {
        HillArms x = new HillArms();
        int[][] wrong = {{-1, 0}, {61, 0}, {0, -1}, {0, 11}, {Integer.MIN_VALUE, 5},
            {Integer.MAX_VALUE, 5}, {5, Integer.MAX_VALUE}, {5, Integer.MIN_VALUE}};
        for (int[] w : wrong) {
            DUE.is("broken " + w[0] + " " + w[1], x.broken(w[0], w[1]), -2);
        }
        DUE.is("the greatest T and W", x.broken(60, 10), -1);
        x.towers(9);
        DUE.is("more than 8 TOWERS", x.broken(5, 5), -2);
        x.towers(8);
        DUE.is("8 TOWERS", x.broken(0, 0), -1);
    }

    private static void fewest() {
        HillArms x = Tapes.line(3, FIRST, OTHERS, LAST, 5);
        DUE.is("not WHOLE anyway", x.broken(2, 3), 0);
        fogs(x);
        DUE.is("one does", x.broken(3, 3), 1);
        fogs(x, 1, 0);
        DUE.is("two do", x.broken(4, 3), 2);
        fogs(x, 1, 0, 2, 0);
        DUE.is("two don't do", x.broken(5, 10), -1);
        DUE.is("no TICK for FOG", x.broken(3, 0), -1);
        DUE.is("no FOG in the TICKS that count", x.broken(4, 1), -1);
        HillArms y = Tapes.line(3, "", "", "");
        DUE.is("nothing to break", y.broken(60, 10), -1);
        DUE.is("T 0", y.broken(0, 10), -1);
        HillArms z = Tapes.line(3, "", "", "", 5);
        DUE.is("T 0 with a MESSAGE", z.broken(0, 10), 0);
    }

    private static void twoInOneTick() {
        HillArms x = Tapes.line(4, "", "when left=blind and right=blind do show 9;",
                "when left=9 do write 1;");
        DUE.is("two FOGS round a tower", x.broken(5, 3), 2);
        fogs(x, 1, 1, 1, 2);
        HillArms y = Tapes.line(5, "", "when left=blind and right=blind and a=0 do a is 1;"
                + "when left=blind and a=1 do show 9;",
                "when left=9 do write 1;");
        DUE.is("three are not sought", y.broken(9, 9), -1);
        y.fog(3, 4, 4);
        DUE.is("with a told one", y.broken(9, 9), 2);
        fogs(y, 4, 2, 5, 2);
    }

    private static void toldFogCounts() {
        HillArms x = Tapes.line(3, FIRST, OTHERS, LAST, 5);
        x.fog(0, 1, 1);
        DUE.is("told FOG breaks it", x.broken(3, 3), 0);
        DUE.is("one more does", x.broken(4, 3), 1);
        fogs(x, 2, 0);
        DUE.is("two more do", x.broken(5, 3), 2);
        fogs(x, 2, 0, 3, 0);
    }

    private static void timeCounts() {
        // the last tower writes when it has shown nothing else for 6 TICKS: FOG sets that back
        String last = "when left=blind do show own+1; when time=6 do write 7;";
        HillArms x = Tapes.line(3, "", "", last, 7);
        DUE.is("ahead of that", x.broken(6, 2), 0);
        DUE.is("in time", x.broken(7, 2), 1);
        fogs(x, 1, 1);
        DUE.is("one sets it back by one", x.broken(8, 2), 1);
        fogs(x, 2, 1);
        DUE.is("by two", x.broken(9, 2), -1);
        DUE.is("by three", x.broken(9, 3), 1);
        fogs(x, 3, 1);
        HillArms y = Tapes.line(3, "", "when left=blind do b is 1; when b=1 and time=9 do show 3;",
                "when left=3 do write 1;");
        DUE.is("late, long after the FOG", y.broken(11, 10), 1);
        fogs(y, 1, 0);
        DUE.is("not yet", y.broken(10, 10), -1);
    }

    /** Behind TICK 2 nothing but the last tower's TIME is another one by FOG in TICK 1. */
    private static void timeAloneCounts() {
        String backAgain = "when own=1 do show 0; when left=blind do show 1;";
        String[] ones = {"time=6", "6=time"};
        for (String one : ones) {
            HillArms x = Tapes.line(3, "", "", backAgain + "when " + one + " do write 7;", 7);
            DUE.is("FOG sets TIME back, asked by " + one, x.broken(7, 1), 1);
            fogs(x, 1, 1);
        }
        String[] sums = {"time", "0+time", "time+time"};
        int[] written = {4, 4, 8};
        for (int i = 0; i < sums.length; i++) {
            String rule = "when left=9 and a=0 do a is 1, write " + sums[i] + ";";
            HillArms x = Tapes.line(3, "", "when time=3 do show 9;", backAgain + rule, written[i]);
            DUE.is("FOG sets TIME back, written by " + sums[i], x.broken(6, 1), 1);
            fogs(x, 1, 1);
        }
    }

    /** As above, but nothing else than TIME stands where it stands. */
    private static void timeInEveryRule() {
        String[] asked = {"when time>left and time<1 do show own+32; when time<own do show 0;"
                + "when time=6 do write 7;",
            "when left<time and 1>time do show own+32; when own>time do show 0; when 6=time do write 7;"};
        for (String last : asked) {
            HillArms x = Tapes.line(3, "", "", last, 7);
            DUE.is("FOG sets TIME back: " + last, x.broken(7, 1), 1);
            fogs(x, 1, 1);
        }
        String[] summed = {"when left=blind do show time+32; when own=32 do show time+0;"
                + "when left=9 and a=0 do a is time+1, write time+3;",
            "when left=blind do show 32+time; when own=32 do show 0+time;"
                + "when left=9 and a=0 do a is 1+time, write 3+time;"};
        for (String last : summed) {
            HillArms x = Tapes.line(3, "", "when time=3 do show 9;", last, 7);
            DUE.is("FOG sets TIME back: " + last, x.broken(6, 1), 1);
            fogs(x, 1, 1);
        }
    }

    /** Behind TICK 1 nothing but what is to be SENT is another one by FOG. */
    private static void sentAloneCounts() {
        HillArms x = Tapes.line(3, "when right=blind do sent; when time=3 do show word;",
                "when left>0 do show left;", "when left>0 and a=0 do a is 1, write left;", 5);
        DUE.is("FOG lets a SIGN out", x.broken(9, 1), 1);
        fogs(x, 1, 0);
    }

    /** Behind TICK 2 nothing but the BOOK is another one by the second FOG. */
    private static void whatIsWrittenAloneCounts() {
        HillArms x = Tapes.line(3, "", "", "when left=blind and b=1 and c=0 do c is 1, write 2;"
                + "when left=blind and b=0 do b is 1; when c=0 and time>0 do c is 1, write 1;", 1);
        DUE.is("the second FOG turns a SIGN", x.broken(5, 2), 2);
        fogs(x, 1, 1, 2, 1);
    }

    private static void latestStays() {
        HillArms x = Tapes.line(3, FIRST, OTHERS, LAST, 5);
        x.broken(4, 3);
        x.broken(61, 3);
        x.broken(60, 1);
        fogs(x, 1, 0, 2, 0);
        x.broken(2, 3);
        fogs(x);
    }

    private static String scrap(Random random, String... some) {
        return some[random.nextInt(some.length)];
    }

    private static String someRules(Random random, String rules) {
        StringBuilder text = new StringBuilder();
        String[] values = {"left", "right", "own", "time", "a", "b", "blind", "0", "1", "5", "word"};
        for (int i = random.nextInt(2); i > 0; i--) {
            text.append("when ").append(scrap(random, "left", "right", "left=blind and time"))
                    .append(scrap(random, "<", "=", ">", "#")).append(scrap(random, values))
                    .append(" do ").append(scrap(random, "a is ", "b is ", "show ", "a is a+"))
                    .append(scrap(random, values)).append(';');
        }
        text.append(rules);
        if (random.nextInt(3) == 0) {
            text.append("when time>").append(random.nextInt(8)).append(" do show ")
                    .append(scrap(random, "0", "own", "a", "left")).append(";");
        }
        return text.toString();
    }

    private static void againstTheOracle() {
        int[] seen = new int[4];
        for (int seed = 0; seed < 400; seed++) {
            Random random = new Random(seed);
            HillArms x = new HillArms();
            Oracle y = new Oracle();
            int towers = 3 + random.nextInt(4);
            x.towers(towers);
            y.towers(towers);
            String[] texts = {FIRST, LAST, OTHERS};
            for (int kind = 0; kind < 3; kind++) {
                both(x, y, Tapes.bytesOf(someRules(random, texts[kind])));
                DUE.is("program", x.program(kind), y.program(kind));
            }
            int[] signs = new int[random.nextInt(4)];
            for (int i = 0; i < signs.length; i++) {
                signs[i] = 1 + random.nextInt(63);
            }
            both(x, y, signs);
            DUE.is("message", x.message(), y.message());
            if (random.nextBoolean()) {
                int tick = 1 + random.nextInt(12);
                DUE.is("fog", x.fog(0, tick, tick + 1), y.fog(0, tick, tick + 1));
            }
            x.play(60);
            int whole = x.played(0) == 0 ? x.played(2) : 10;
            for (int ticks = Math.max(0, whole - 4); ticks < whole + 5 && ticks <= 60; ticks++) {
                String call = "seed " + seed + " broken(" + ticks + ", 4)";
                int answer = x.broken(ticks, 4);
                seen[answer + 1]++;
                DUE.is(call, answer, y.broken(ticks, 4));
                for (int k = 0; k < 3; k++) {
                    DUE.is(call + " TICK", x.fogAt(k, 0), y.fogAt(k, 0));
                    DUE.is(call + " tower", x.fogAt(k, 1), y.fogAt(k, 1));
                }
            }
        }
        for (int i = 0; i < seen.length; i++) {
            DUE.is("answers " + (i - 1) + " were often enough: " + seen[i], seen[i] > 60, true);
        }
    }

    private static void both(HillArms x, Oracle y, int[] bytes) {
        Tapes.put(x, bytes);
        y.end(0);
        for (int at = 0; at < bytes.length; at += 4) {
            y.feed(Tapes.four(bytes, at));
        }
        y.end(bytes.length);
    }
}
