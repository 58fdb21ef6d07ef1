import java.util.Random;

/**
 * Promises 6, 9 to 16 and 17 to 22: PROGRAMS made from the whole grammar, and small books over few
 * letters, against the Oracle. The MESSAGE is taken from what the line writes, so that many lines
 * are WHOLE and broken() has to seek.
 */
public final class GrammarRunsTest {
    private static final String[] VALUES = {"left", "right", "own", "time", "word", "blind", "a", "b", "c", "d"};
    private static final String[] NUMBERS = {"0", "0", "1", "1", "2", "3", "5", "9", "00", "07", "62", "63", "64", "99"};
    private static final String[] MARKS = {"<", "=", ">", "#"};
    private static final String[] CELLS = {"a", "b", "c", "d"};
    private static final int[] SEEN = new int[4];

    private final Random random;
    private final Due due;
    private final String name;
    private final HillArms x = new HillArms();
    private final Oracle y = new Oracle();
    private int calls;

    private GrammarRunsTest(int seed, Due due) {
        random = new Random(seed);
        name = "run " + seed + ": ";
        this.due = due;
    }

    public static void main(String[] args) {
        int from = args.length > 0 ? Integer.parseInt(args[0]) : 0;
        int runs = args.length > 1 ? Integer.parseInt(args[1]) : 1500;
        Due due = new Due();
        for (int seed = from; seed < from + runs; seed++) {
            new GrammarRunsTest(seed, due).lineRun();
            new GrammarRunsTest(seed, due).bookRun();
        }
        System.out.println("BROKEN by 0, 1, 2, none: " + SEEN[0] + ", " + SEEN[1] + ", " + SEEN[2] + ", " + SEEN[3]);
        for (int i = 0; i < SEEN.length && runs >= 1000; i++) {
            due.is("lines of each kind are tried: " + i, SEEN[i] > 20, true);
        }
        due.end();
    }

    private void is(String call, long got, long want) {
        calls++;
        due.is(name + call, got, want);
        if (calls > 512) {
            throw new IllegalStateException("the test asks an object too often: " + name);
        }
    }

    private String oneOf(String... some) {
        return some[random.nextInt(some.length)];
    }

    private void put(int... bytes) {
        for (int at = 0; at < bytes.length; at += 20) {
            int[] n = new int[5];
            for (int i = 0; i < 5; i++) {
                n[i] = Tapes.four(bytes, at + 4 * i);
            }
            is("feed", x.feed(n[0], n[1], n[2], n[3], n[4]), y.feed(n));
        }
        is("end", x.end(bytes.length) ? 1 : 0, y.end(bytes.length) ? 1 : 0);
    }

    private void put(String text) {
        put(Tapes.bytesOf(text));
    }

    // ---- lines

    private String value() {
        return random.nextInt(3) == 0 ? oneOf(NUMBERS) : oneOf(VALUES);
    }

    private String sum() {
        return value() + (random.nextInt(3) == 0 ? "+" + value() : "");
    }

    private String act(int kind) {
        switch (random.nextInt(6)) {
            case 0:
            case 1:
                return "show " + sum();
            case 2:
                return oneOf(CELLS) + " is " + sum();
            case 3:
                return kind == 1 ? "write " + sum() : "show left";
            case 4:
                return kind == 0 ? "sent" : oneOf(CELLS) + " is " + oneOf(CELLS) + "+1";
            default:
                return random.nextInt(4) > 0 ? "show " + sum() : oneOf("sent", "write " + sum());
        }
    }

    private String one() {
        return random.nextInt(4) == 0 ? oneOf("left", "right") + oneOf("=", "#") + "blind"
                : oneOf(VALUES) + oneOf(MARKS) + value();
    }

    private String rule(int kind) {
        StringBuilder rule = new StringBuilder("when ").append(one());
        for (int n = random.nextInt(3); n > 0; n--) {
            rule.append(" and ").append(one());
        }
        rule.append(" do ").append(act(kind));
        for (int n = random.nextInt(3); n > 0; n--) {
            rule.append(oneOf(",", ", ", " ,\n")).append(act(kind));
        }
        return rule.append(oneOf(";", " ;", ";\n")).toString();
    }

    /** What happens only after a second FOG, say: single ones seldom break such a line. */
    private String countingRules(int kind) {
        String cell = oneOf(CELLS);
        return "when " + cell + "=2 and " + one() + " do " + act(kind) + "," + cell + " is 3;when "
                + oneOf("left", "right") + "=blind do " + cell + " is " + cell + "+1;";
    }

    private void program(int kind) {
        StringBuilder text = new StringBuilder();
        for (int n = random.nextInt(6); n > 0; n--) {
            text.append(random.nextInt(5) == 0 ? countingRules(kind) : rule(kind));
        }
        put(text.toString());
        is("program " + kind + " " + text, x.program(kind), y.program(kind));
        is("fault", x.fault(), y.fault());
    }

    private void lineRun() {
        int towers = random.nextInt(3) == 0 ? 3 + random.nextInt(6) : 3 + random.nextInt(2);
        is("towers", x.towers(towers) ? 1 : 0, y.towers(towers) ? 1 : 0);
        for (int kind = 0; kind < 3; kind++) {
            program(kind);
        }
        for (int n = random.nextInt(3); n > 0; n--) {
            int gap = random.nextInt(towers - 1);
            int tick = 1 + random.nextInt(12);
            int last = tick + random.nextInt(4);
            is("fog", x.fog(gap, tick, last), y.fog(gap, tick, last));
        }
        int ticks = random.nextInt(30);
        for (int n = 0; n < 3; n++) {
            lookAtPlay(towers, ticks);
            breakIt(towers, ticks);
            sendWhatWasWritten();
        }
        breakIt(towers, ticks);
        lookAtPlay(towers, random.nextInt(8) == 0 ? 500 : 130);
    }

    private void lookAtPlay(int towers, int ticks) {
        is("play " + ticks, x.play(ticks), y.play(ticks));
        for (int what = 0; what < 4; what++) {
            is("played " + what, x.played(what), y.played(what));
        }
        for (int tower = 0; tower < towers; tower++) {
            for (int c = 0; c < 5; c++) {
                is("cell", x.cell(tower, c), y.cell(tower, c));
            }
            int tick = random.nextInt(ticks + 1);
            is("shown", x.shown(tower, tick), y.shown(tower, tick));
            is("shown at last", x.shown(tower, ticks), y.shown(tower, ticks));
        }
        for (int n = 0; n < 6; n++) {
            int k = random.nextInt(n < 3 ? 6 : 101);
            is("written " + k, x.written(k), y.written(k));
        }
    }

    private void sendWhatWasWritten() {
        int length = 0;
        int[] signs = new int[61];
        while (length < 61 && y.written(length) > 0) {
            signs[length] = y.written(length);
            length++;
        }
        put(java.util.Arrays.copyOf(signs, length));
        is("message", x.message() ? 1 : 0, y.message() ? 1 : 0);
    }

    private void breakIt(int towers, int ticks) {
        int wide = random.nextInt(towers < 5 ? 8 : 4);
        int want = y.broken(ticks, wide);
        is("broken " + ticks + " " + wide, x.broken(ticks, wide), want);
        SEEN[want < 0 ? 3 : want]++;
        for (int k = 0; k < 6; k++) {
            is("fogAt", x.fogAt(k / 2, k % 2), y.fogAt(k / 2, k % 2));
        }
    }

    // ---- books

    private String text(int words, int most) {
        StringBuilder text = new StringBuilder(oneOf("a", "b", "aa", "ab", "aab"));
        for (int n = random.nextInt(words); n > 0 && text.length() < most - 3; n--) {
            text.append(' ').append(oneOf("a", "b", "aa", "ab", "aab"));
        }
        return text.toString();
    }

    private void bookRun() {
        for (int n = 1 + random.nextInt(13); n > 0; n--) {
            put(text(5, 13));
            is("entry", x.entry(), y.entry());
        }
        String coded = text(30, 62);
        put(coded);
        is("code " + coded, x.code(), y.code());
        for (int k = 0; k <= coded.length(); k++) {
            is("piece " + k + " of " + coded, x.piece(k), y.piece(k));
        }
        for (int n = random.nextInt(4); n > 0; n--) {
            put(text(12, 40));
            is("year", x.year(), y.year());
        }
        int most = random.nextInt(5);
        if (x.count(3) < 8) {
            is("small " + most, x.small(most), y.small(most));
            is("smallSet", x.smallSet(), y.smallSet());
        }
    }
}
