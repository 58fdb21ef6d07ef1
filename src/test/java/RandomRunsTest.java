import java.util.NoSuchElementException;
import java.util.Random;

/** All promises: random runs of calls, right and wrong ones, against the Oracle. */
public final class RandomRunsTest {
    private static final String[] FIRST = {
        "when own=0 and right=0 and word#blind do show word; when own#0 and right=own do show 0, sent;",
        "when own=0 and right=0 and word#blind do show word;when own#0 and right=own do show 0,sent;"
                + "when time>6 and own#0 do show 0, a is a+1;",
        "when time>2 and word>0 do show word, sent, b is word; when time>1 do show 0, c is c + time;",
        "when word#blind do show word + a, a is a + 1, sent;",
        "when time<1 do a is blind+blind; when right<own do show right, sent; when time>4 do show word;"};
    private static final String[] MIDDLE = {
        "when own=0 and left>0 do show left; when left=0 and right=own do show 0;",
        "when own=0 and left>0 do show left, b is left; when left=0 and right=own do show 0;"
                + "when left=blind and time>9 do show 0, c is c+1;",
        "when left>0 do show left, a is time; when left=blind do show b; when left=0 do show 0;",
        "when left#own do show left;",
        "when left=right do show a + 1, a is own; when left>right and time<5 do b is b + left;"
                + " when left<right do show right+99, write own, sent;"};
    private static final String[] LAST = {
        "when own=0 and left>0 do show left, write left; when left=0 do show 0;",
        "when left#a and left#blind and left#0 do write left, a is left, show left; when left=0 do a is 0;",
        "when own=0 and left>0 do show left, write left + b; when left=0 and time>3 do show 0, b is blind;",
        "when time>0 do write time + left;",
        "when left>own do show left, write own + left, a is own;"};
    private static final String[] SCRAPS = {
        "when", "and", "do", "show", "is", "write", "sent", "left", "right", "own", "time", "word",
        "blind", "a", "b", "c", "d", "0", "1", "63", "99", "100", ";", ",", "+", "<", "=", ">", "#",
        " ", "\n", "\t", "e", "whenx", "a1", "1a", "A", "when a=0 do sent;", "when own < 5 do b is b+1;"};
    // an object is good for 512 calls, and someCalls() makes 80 of them at most
    private static final int CALLS = 430;
    private static final String[] LETTERS = {"a", "b", "to", "be", "or", "not", "the", "king", "is"};

    private final Random random;
    private final Due due;
    private final HillArms x = new HillArms();
    private final Oracle y = new Oracle();
    private final String name;
    private int calls;

    private RandomRunsTest(int seed, Due due) {
        random = new Random(seed);
        name = "run " + seed + ": ";
        this.due = due;
    }

    public static void main(String[] args) {
        int from = args.length > 0 ? Integer.parseInt(args[0]) : 0;
        int runs = args.length > 1 ? Integer.parseInt(args[1]) : 500;
        Due due = new Due();
        for (int seed = from; seed < from + runs; seed++) {
            RandomRunsTest test = new RandomRunsTest(seed, due);
            while (test.calls < CALLS) {
                test.someCalls();
            }
        }
        due.end();
    }

    /** Mostly within the range, sometimes just beyond it, seldom far away. */
    private int about(int least, int most) {
        int way = random.nextInt(40);
        if (way == 0) {
            return random.nextBoolean() ? least - 1 : most + 1;
        }
        if (way == 1) {
            return random.nextBoolean() ? random.nextInt()
                    : random.nextBoolean() ? Integer.MAX_VALUE : Integer.MIN_VALUE;
        }
        return least + random.nextInt(most - least + 1);
    }

    private String oneOf(String[] some) {
        return some[random.nextInt(some.length)];
    }

    private void check(String call, long got, long want) {
        calls++;
        due.is(name + call, got, want);
    }

    private void put(int... bytes) {
        for (int at = 0; at < bytes.length; at += 20) {
            int[] n = new int[5];
            for (int i = 0; i < 5; i++) {
                n[i] = Tapes.four(bytes, at + 4 * i);
            }
            check("feed", x.feed(n[0], n[1], n[2], n[3], n[4]), y.feed(n));
        }
        int length = random.nextInt(60) == 0 ? about(0, 440) : bytes.length;
        check("end " + length, x.end(length) ? 1 : 0, y.end(length) ? 1 : 0);
    }

    private void put(String text) {
        put(Tapes.bytesOf(text));
    }

    private void someCalls() {
        switch (random.nextInt(13)) {
            case 0 -> days();
            case 1, 2 -> programCalls();
            case 3 -> messageCalls();
            case 4 -> fogCalls();
            case 5, 6 -> playCalls();
            case 7 -> brokenCalls();
            case 8, 9 -> wordCalls();
            case 10 -> slipCalls();
            case 11 -> delayCalls();
            default -> hillCalls();
        }
        int what = about(0, 6);
        check("count " + what, x.count(what), y.count(what));
    }

    private void days() {
        int n = random.nextInt(8) == 0 ? about(0, 999) : random.nextInt(40);
        check("next " + n, x.next(n), y.next(n));
        int towers = random.nextInt(5) == 0 ? about(3, 16) : about(3, 6);
        check("towers " + towers, x.towers(towers) ? 1 : 0, y.towers(towers) ? 1 : 0);
    }

    private String someProgram(int kind) {
        String text = oneOf(kind == 0 ? FIRST : kind == 1 ? LAST : MIDDLE);
        switch (random.nextInt(6)) {
            case 0: {
                StringBuilder scraps = new StringBuilder();
                int n = random.nextInt(30);
                for (int i = 0; i < n; i++) {
                    scraps.append(oneOf(SCRAPS)).append(random.nextBoolean() ? " " : "");
                }
                return scraps.toString();
            }
            case 1: {
                int at = random.nextInt(text.length() + 1);
                int to = Math.min(text.length(), at + random.nextInt(4));
                return text.substring(0, at) + oneOf(SCRAPS) + text.substring(to);
            }
            case 2: {
                StringBuilder many = new StringBuilder(text);
                String more = "when " + "a=0 and ".repeat(random.nextInt(5)) + "b=1 do sent"
                        + ",sent".repeat(random.nextInt(5)) + ";" + " ".repeat(random.nextInt(3));
                int n = random.nextInt(24);
                for (int i = 0; i < n; i++) {
                    many.append(more);
                }
                return many.substring(0, Math.min(many.length(), 380 + random.nextInt(61)));
            }
            default:
                return text;
        }
    }

    private void programCalls() {
        for (int kind = 0; kind < 3; kind++) {
            int asked = random.nextInt(20) == 0 ? about(0, 2) : kind;
            String text = someProgram(kind);
            put(text);
            check("program " + asked + " " + text, x.program(asked), y.program(asked));
            check("fault", x.fault(), y.fault());
        }
    }

    private void messageCalls() {
        int[] signs = new int[random.nextInt(30) == 0 ? 58 + random.nextInt(5) : random.nextInt(6)];
        for (int i = 0; i < signs.length; i++) {
            signs[i] = random.nextInt(90) == 0 ? random.nextInt(256) : 1 + random.nextInt(63);
        }
        put(signs);
        check("message", x.message() ? 1 : 0, y.message() ? 1 : 0);
    }

    private void fogCalls() {
        int from = random.nextInt(4) == 0 ? about(1, 500) : about(1, 40);
        int to = random.nextInt(4) == 0 ? about(1, 500) : from + random.nextInt(6);
        int gap = about(0, 6);
        check("fog", x.fog(gap, from, to), y.fog(gap, from, to));
    }

    private void playCalls() {
        int ticks = random.nextInt(4) == 0 ? about(0, 500) : about(0, 80);
        check("play " + ticks, x.play(ticks), y.play(ticks));
        for (int what = -1; what < 5; what++) {
            check("played " + what, x.played(what), y.played(what));
        }
        for (int i = 0; i < 12; i++) {
            int tower = about(0, 7);
            int tick = about(0, 80);
            check("shown", x.shown(tower, tick), y.shown(tower, tick));
            int c = about(0, 4);
            check("cell", x.cell(tower, c), y.cell(tower, c));
            int k = random.nextInt(3) == 0 ? about(0, 100) : about(0, 5);
            check("written", x.written(k), y.written(k));
        }
    }

    private void brokenCalls() {
        int ticks = about(0, 60);
        int wide = random.nextInt(4) == 0 ? about(0, 10) : about(0, 4);
        if (x.count(1) * wide > 40) {
            wide = 2; // the Oracle would take too long
        }
        check("broken " + ticks + " " + wide, x.broken(ticks, wide), y.broken(ticks, wide));
        for (int k = -1; k < 3; k++) {
            int what = about(0, 1);
            check("fogAt", x.fogAt(k, what), y.fogAt(k, what));
        }
    }

    private String someText(int most) {
        StringBuilder text = new StringBuilder(oneOf(LETTERS));
        int n = random.nextInt(most);
        for (int i = 0; i < n; i++) {
            text.append(random.nextInt(30) == 0 ? "" : " ").append(oneOf(LETTERS));
        }
        if (random.nextInt(20) == 0) {
            int at = random.nextInt(text.length() + 1);
            text.insert(at, "  AB.".charAt(random.nextInt(5)));
        }
        return text.toString();
    }

    private void wordCalls() {
        for (int i = 0; i < 2; i++) {
            put(someText(4));
            check("entry", x.entry(), y.entry());
        }
        String text = someText(20);
        put(text);
        check("code " + text, x.code(), y.code());
        for (int k = -1; k < 20; k++) {
            check("piece of " + text, x.piece(k), y.piece(k));
        }
        if (random.nextInt(3) == 0) {
            put(someText(14));
            check("year", x.year(), y.year());
        }
        if (random.nextInt(3) == 0 && x.count(3) < 9) {
            int n = random.nextInt(3) == 0 ? about(0, 12) : about(0, 4);
            check("small " + n, x.small(n), y.small(n));
        }
        check("smallSet", x.smallSet(), y.smallSet());
    }

    private void slipCalls() {
        int signs = about(1, 60);
        int towers = about(1, 16);
        int r = random.nextBoolean() ? about(2, 2000) : about(2, 20);
        long got;
        long want;
        try {
            got = x.right(signs, towers, r);
        } catch (NoSuchElementException e) {
            got = -7;
        }
        try {
            want = y.right(signs, towers, r);
        } catch (NoSuchElementException e) {
            want = -7;
        }
        check("right " + signs + " " + towers + " " + r, got, want);
    }

    private void delayCalls() {
        int n = x.count(1);
        int from = about(0, n - 1);
        int to = Math.min(n, from < 0 ? n : from + random.nextInt(4));
        int minutes = random.nextInt(6) == 0 ? about(1, 200)
                : Math.max(1, (to - from + 1) * (2 + random.nextInt(6)));
        check("note", x.note(from, to, minutes), y.note(from, to, minutes));
        int t = random.nextBoolean() ? x.count(0) : about(0, 999);
        for (int i = 0; i < n; i++) {
            int what = about(0, 1);
            check("delay", x.delay(i, t, what), y.delay(i, t, what));
        }
        int tower = about(0, n - 1);
        check("delay", x.delay(tower, t, 0), y.delay(tower, t, 0));
        check("look", x.look(t), y.look(t));
    }

    private void hillCalls() {
        int n = random.nextInt(4) == 0 ? about(3, 14) : about(3, 8);
        int room = n < 3 || n > 14 ? 3 : n;
        int days = random.nextInt(10) == 0 ? random.nextInt(10) : 1 + random.nextInt(3);
        int[] bytes = new int[Math.min(440, 2 * room * days + (random.nextInt(20) == 0 ? 1 : 0))];
        for (int i = 0; i < bytes.length; i++) {
            bytes[i] = random.nextInt(256) & random.nextInt(256) & (random.nextInt(256) | 36);
        }
        put(bytes);
        check("hills " + n, x.hills(n), y.hills(n));
        check("hillSet", x.hillSet(), y.hillSet());
    }
}
