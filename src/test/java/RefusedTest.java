import java.util.ArrayList;
import java.util.List;
import java.util.NoSuchElementException;

/**
 * A refused call changes nothing: of two objects that were told the same calls one gets a refused
 * one besides, and then both must answer a long row of later calls alike.
 */
public final class RefusedTest {
    private static final Due DUE = new Due();
    private static final int MIN = Integer.MIN_VALUE;
    private static final int MAX = Integer.MAX_VALUE;
    private static final String SEND = "when own=0 and right=0 and word#blind do show word, a is a+1;"
            + "when own#0 and right=own do show 0, sent;";
    private static final String PASS = "when own=0 and left>0 do show left, b is time;"
            + "when left=0 and right=own do show 0;";
    private static final String TAKE = "when own=0 and left>0 do show left, write left;"
            + "when left=0 do show 0, c is c+1;";

    private enum Setup { FRESH, BUSY, FULL }

    /** A call that must be refused; what a test does to an object. */
    private interface Call {
        long on(HillArms x);
    }

    public static void main(String[] args) {
        for (Setup setup : Setup.values()) {
            callsThatOnlyAsk(setup);
            numbersNotAsTold(setup);
            tapesNotAsTold(setup);
            throwsChangeNothing(setup);
        }
        busyOnes();
        fullOnes();
        faultyPrograms();
        DUE.end();
    }

    private static HillArms made(Setup setup) {
        HillArms x = new HillArms();
        if (setup == Setup.BUSY) {
            fillSome(x);
        } else if (setup == Setup.FULL) {
            fillAll(x);
        }
        return x;
    }

    private static void fillSome(HillArms x) {
        x.towers(5);
        Tapes.program(x, 0, SEND);
        Tapes.program(x, 1, TAKE);
        Tapes.program(x, 2, PASS);
        Tapes.message(x, 5, 9, 63);
        x.fog(1, 3, 4);
        x.play(40);
        x.broken(8, 4);
        Tapes.entry(x, "to be");
        Tapes.entry(x, "or not");
        Tapes.year(x, "to be or not to be");
        Tapes.code(x, "to be so");
        x.small(1);
        x.next(10);
        x.note(0, 2, 12);
        x.next(10);
        x.note(1, 1, 3);
        Tapes.hills(x, 4, 2 | 4, 8, 8, 0);
        Tapes.program(x, 3, "");
        Tapes.put(x, "left over");
    }

    private static void fillAll(HillArms x) {
        Tapes.program(x, 0, SEND);
        Tapes.program(x, 1, TAKE);
        Tapes.program(x, 2, PASS);
        Tapes.message(x, Tapes.full(60, 7));
        for (int i = 0; i < 60; i++) {
            x.fog(i % 7, 5 * i + 1, 5 * i + 2);
            x.note(0, i % 8, 3 * (i % 8 + 1));
        }
        for (int i = 0; i < 12; i++) {
            Tapes.entry(x, "word" + (char) ('a' + i));
        }
        for (int i = 0; i < 8; i++) {
            Tapes.year(x, "worda wordb wordc wordd worde " + (char) ('a' + i));
        }
        x.next(999);
        x.play(500);
        Tapes.put(x, "z".repeat(440));
    }

    /** The calls' answers: what an object is, as far as it can be told by some hundred calls. */
    private static List<String> later(HillArms x) {
        List<String> told = new ArrayList<>();
        whatIsThere(x, told);
        theTape(x, told);
        theLine(x, told);
        theWords(x, told);
        theRest(x, told);
        return told;
    }

    private static void tell(List<String> told, String call, long answer) {
        told.add(call + " " + answer);
    }

    private static void whatIsThere(HillArms x, List<String> told) {
        for (int what = 0; what < 7; what++) {
            tell(told, "count " + what, x.count(what));
        }
        tell(told, "fault", x.fault());
        thePlay(x, told);
        for (int k = 0; k < 6; k++) {
            tell(told, "piece " + k, x.piece(k));
        }
        tell(told, "smallSet", x.smallSet());
        tell(told, "hillSet", x.hillSet());
    }

    private static void thePlay(HillArms x, List<String> told) {
        for (int what = 0; what < 4; what++) {
            tell(told, "played " + what, x.played(what));
            tell(told, "written " + what, x.written(what));
            tell(told, "fogAt " + what, x.fogAt(what / 2, what % 2));
        }
        int[] ticks = {0, 2, 40, 500};
        for (int tick : ticks) {
            tell(told, "shown in " + tick, x.shown(0, tick));
            tell(told, "shown in " + tick, x.shown(1, tick));
        }
        int last = x.count(1) - 1;
        for (int c = 0; c < 3; c++) {
            tell(told, "cell " + c, x.cell(c == 1 ? 1 : c == 0 ? 0 : last, c));
        }
        tell(told, "TIME", x.cell(1, 4));
    }

    private static void theTape(HillArms x, List<String> told) {
        tell(told, "feed", x.feed(0x71717171, 0x72727272, 0x73737373, 0x71717171, 0x72727272));
        x.end(60);
        tell(told, "bytes", x.count(6));
        tell(told, "code", x.code());
        for (int k = 0; k < 30; k += 3) {
            tell(told, "piece " + k, x.piece(k));
        }
    }

    private static void theLine(HillArms x, List<String> told) {
        tell(told, "play", x.play(50));
        thePlay(x, told);
        tell(told, "broken", x.broken(12, 3));
        thePlay(x, told);
        tell(told, "program", Tapes.program(x, 2, "when left>0 do show left; when a=0 do sent;"));
        tell(told, "play", x.play(30));
        thePlay(x, told);
    }

    private static void theWords(HillArms x, List<String> told) {
        for (int n = 0; n < 3; n++) {
            tell(told, "small " + n, x.small(n));
            tell(told, "smallSet " + n, x.smallSet());
        }
        tell(told, "entry", Tapes.entry(x, "new one"));
        tell(told, "year", Tapes.year(x, "a new one"));
        tell(told, "code", Tapes.code(x, "a new one to be or not"));
        tell(told, "piece 2", x.piece(2));
        tell(told, "small 12", x.small(12));
        tell(told, "smallSet 12", x.smallSet());
    }

    private static void theRest(HillArms x, List<String> told) {
        tell(told, "look", x.look(15));
        int n = x.count(1);
        for (int tower = 0; tower < n; tower += 2) {
            tell(told, "least of " + tower, x.delay(tower, 999, 0));
            tell(told, "greatest of " + tower, x.delay(tower, 999, 1));
        }
        tell(told, "next", x.next(1));
        tell(told, "towers", x.towers(6) ? 1 : 0);
        tell(told, "fog", x.fog(0, 1, 1));
        tell(told, "note", x.note(1, 2, 7));
        tell(told, "delay", x.delay(2, 999, 1));
        tell(told, "hills", Tapes.hills(x, 3, 2, 4, 0));
        tell(told, "hillSet", x.hillSet());
        tell(told, "fault", x.fault());
    }

    /** The second call is what the other twin gets: end(0), where the tape is empty then. */
    private static void twins(String name, Setup setup, Call refused, long answer, Call instead) {
        HillArms one = made(setup);
        HillArms other = made(setup);
        DUE.is(setup + " " + name, refused.on(one), answer);
        instead.on(other);
        List<String> got = later(one);
        List<String> want = later(other);
        for (int i = 0; i < want.size(); i++) {
            String call = setup + " behind " + name + ": " + got.get(i) + ", due " + want.get(i);
            DUE.is(call, got.get(i).equals(want.get(i)), true);
        }
    }

    private static void refused(String name, Setup setup, Call call, long answer) {
        twins(name, setup, call, answer, x -> 0);
    }

    private static void refusedTape(String name, Setup setup, Call call, long answer) {
        twins(name, setup, call, answer, x -> x.end(0) ? 1 : 0);
    }

    private static void callsThatOnlyAsk(Setup setup) {
        refused("count(7)", setup, x -> x.count(7), -1);
        refused("count(-1)", setup, x -> x.count(-1), -1);
        refused("shown(16, 0)", setup, x -> x.shown(16, 0), -1);
        refused("shown(0, 501)", setup, x -> x.shown(0, 501), -1);
        refused("cell(0, 5)", setup, x -> x.cell(0, 5), -1);
        refused("cell(-1, 0)", setup, x -> x.cell(-1, 0), -1);
        refused("written(100)", setup, x -> x.written(100), -1);
        refused("played(4)", setup, x -> x.played(4), -1);
        refused("fogAt(2, 0)", setup, x -> x.fogAt(2, 0), -1);
        refused("fogAt(0, 2)", setup, x -> x.fogAt(0, 2), -1);
        refused("piece(60)", setup, x -> x.piece(60), -1);
        refused("delay(16, 0, 0)", setup, x -> x.delay(16, 0, 0), -1);
        refused("delay(0, 0, 2)", setup, x -> x.delay(0, 0, 2), -1);
    }

    private static void numbersNotAsTold(Setup setup) {
        int[] wrong = {-1, MIN, MAX, 1000};
        for (int n : wrong) {
            refused("end(" + n + ")", setup, x -> x.end(n) ? 1 : 0, 0);
            refused("next(" + n + ")", setup, x -> x.next(n), -1);
            refused("towers(" + n + ")", setup, x -> x.towers(n) ? 1 : 0, 0);
            refused("play(" + n + ")", setup, x -> x.play(n), -1);
            refused("broken(" + n + ", 1)", setup, x -> x.broken(n, 1), -2);
            refused("broken(1, " + n + ")", setup, x -> x.broken(1, n), -2);
            refused("small(" + n + ")", setup, x -> x.small(n), -1);
            refused("fog(" + n + ", 1, 1)", setup, x -> x.fog(n, 1, 1), -1);
            refused("fog(0, " + n + ", " + n + ")", setup, x -> x.fog(0, n, n), -1);
            refused("note(0, " + n + ", 5)", setup, x -> x.note(0, n, 5), -1);
            refused("note(" + n + ", 2, 5)", setup, x -> x.note(n, 2, 5), -1);
            refused("note(0, 2, " + n + ")", setup, x -> x.note(0, 2, n), -1);
        }
        refused("towers(2)", setup, x -> x.towers(2) ? 1 : 0, 0);
        refused("towers(17)", setup, x -> x.towers(17) ? 1 : 0, 0);
        refused("play(501)", setup, x -> x.play(501), -1);
        refused("broken(61, 1)", setup, x -> x.broken(61, 1), -2);
        refused("broken(60, 11)", setup, x -> x.broken(60, 11), -2);
        refused("small(13)", setup, x -> x.small(13), -1);
        refused("fog(0, 0, 1)", setup, x -> x.fog(0, 0, 1), -1);
        refused("fog(0, 2, 1)", setup, x -> x.fog(0, 2, 1), -1);
        refused("fog(0, 500, 501)", setup, x -> x.fog(0, 500, 501), -1);
        refused("note(2, 1, 5)", setup, x -> x.note(2, 1, 5), -1);
        refused("note(0, 2, 0)", setup, x -> x.note(0, 2, 0), -1);
        refused("note(0, 2, 201)", setup, x -> x.note(0, 2, 201), -1);
    }

    private static void tapesNotAsTold(Setup setup) {
        refusedTape("program(3)", setup, x -> x.program(3), -1000);
        refusedTape("program(-1) of RULES", setup, x -> Tapes.program(x, -1, "when a=0 do b is 1;"), -1000);
        refusedTape("message of 64", setup, x -> Tapes.message(x, 1, 2, 64) ? 1 : 0, 0);
        refusedTape("message of 0", setup, x -> Tapes.message(x, 0, 2) ? 1 : 0, 0);
        refusedTape("message of 61", setup, x -> Tapes.message(x, Tapes.full(61, 8)) ? 1 : 0, 0);
        String[] wrong = {"", "a ", " a", "a  b", "A", "a1", "a".repeat(61)};
        for (String text : wrong) {
            refusedTape("entry of '" + text + "'", setup, x -> Tapes.entry(x, text), -1);
            refusedTape("code of '" + text + "'", setup, x -> Tapes.code(x, text), -1);
            refusedTape("year of '" + text + "'", setup, x -> Tapes.year(x, text), -1);
        }
        refusedTape("entry of 13 bytes", setup, x -> Tapes.entry(x, "a".repeat(13)), -1);
        refusedTape("hills(2)", setup, x -> Tapes.hills(x, 2, 2, 0), -2);
        refusedTape("hills(15)", setup, x -> Tapes.hills(x, 15, new int[15]), -2);
        refusedTape("hills(3) of nine days", setup, x -> Tapes.hills(x, 3, new int[27]), -2);
        refusedTape("hills(3) of no day", setup, x -> Tapes.hills(x, 3), -2);
        refusedTape("hills(3) of half a day", setup, x -> Tapes.hills(x, 3, 4, 0), -2);
        refusedTape("hills(3), no choice", setup, x -> Tapes.hills(x, 3, 2, 0, 0), -1);
    }

    private static void throwsChangeNothing(Setup setup) {
        DUE.about("A call that throws changes nothing.");
        int[][] wrong = {{0, 1, 2}, {61, 1, 2}, {1, 0, 2}, {1, 17, 2}, {1, 1, 1}, {1, 1, 2001},
            {MIN, MIN, MIN}, {MAX, MAX, MAX}};
        for (int[] w : wrong) {
            String name = "right(" + w[0] + ", " + w[1] + ", " + w[2] + ")";
            refused(name, setup, x -> throwsIt(x, w), 1);
        }
    }

    private static int throwsIt(HillArms x, int[] w) {
        try {
            x.right(w[0], w[1], w[2]);
            return 0;
        } catch (NoSuchElementException e) {
            return 1;
        }
    }

    private static void busyOnes() {
        refused("end(10)", Setup.BUSY, x -> x.end(10) ? 1 : 0, 0);
        refused("next(980)", Setup.BUSY, x -> x.next(980), -1);
        refused("towers(6) with FOG and NOTES", Setup.BUSY, x -> x.towers(6) ? 1 : 0, 0);
        refused("fog behind the last tower", Setup.BUSY, x -> x.fog(4, 1, 500), -1);
        refused("note of no tower", Setup.BUSY, x -> x.note(0, 5, 20), -1);
        refused("broken by more than two", Setup.BUSY, x -> x.broken(60, 2), -1);
        refused("shown of no tower", Setup.BUSY, x -> x.shown(5, 0), -1);
        refused("shown in no TICK", Setup.BUSY, x -> x.shown(0, 41), -1);
        refused("written(3)", Setup.BUSY, x -> x.written(3), -1);
        refused("piece(4)", Setup.BUSY, x -> x.piece(4), -1);
        refusedTape("entry once more", Setup.BUSY, x -> Tapes.entry(x, "or not"), -1);
    }

    private static void fullOnes() {
        refused("feed behind 440", Setup.FULL, x -> x.feed(0x61616161, 1, 2, 3, 4), -1);
        refused("end(441)", Setup.FULL, x -> x.end(441) ? 1 : 0, 0);
        refused("next(1) on the last day", Setup.FULL, x -> x.next(1), -1);
        refused("a 61st FOG", Setup.FULL, x -> x.fog(0, 1, 500), -1);
        refused("a 61st NOTE", Setup.FULL, x -> x.note(0, 0, 9), -1);
        refused("towers(8) with FOG and NOTES", Setup.FULL, x -> x.towers(8) ? 1 : 0, 0);
        refusedTape("a 13th ENTRY", Setup.FULL, x -> Tapes.entry(x, "worde word"), -1);
        refusedTape("a ninth TEXT", Setup.FULL, x -> Tapes.year(x, "worda wordl"), -1);
    }

    /** A faulty text leaves all PROGRAMS alone, so it is the same for which kind it was. */
    private static void faultyPrograms() {
        String[] wrong = {"when own=0 do show 3; ?", "when own=0 do show 3", "when own=0 do sent;".repeat(21),
            "when own=0 do sent;" + " ".repeat(400)};
        for (Setup setup : Setup.values()) {
            for (String text : wrong) {
                for (int kind = 0; kind < 3; kind++) {
                    int asked = kind;
                    long due = Tapes.program(new HillArms(), 0, text);
                    twins("program(" + kind + ") of " + text, setup,
                            x -> Tapes.program(x, asked, text), due,
                            x -> Tapes.program(x, (asked + 1) % 3, text));
                }
            }
        }
    }
}
