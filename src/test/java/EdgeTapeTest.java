/** Promises 1 to 5 and 29 at their boundaries; each method stands for the words that it names. */
public final class EdgeTapeTest {
    private static final Due DUE = new Due();
    private static final int MIN = Integer.MIN_VALUE;
    private static final int MAX = Integer.MAX_VALUE;

    public static void main(String[] args) {
        callsOfAnObject();
        theLastCallStillWorks();
        constants();
        eightTowersAtFirst();
        noProgramsAtFirst();
        nothingElseAtFirst();
        howManyTheTapeHas();
        theHighestByteFirst();
        noMoreThan440();
        firstBytesAlone();
        notSoManyOrBelowZero();
        daysToGoOn();
        behindTheLastDay();
        threeToSixteenTowers();
        towersWithFogsOrNotes();
        countOfEach();
        countOfAnother();
        theTapeIsEmptyThen();
        DUE.end();
    }

    private static void callsOfAnObject() {
        DUE.about("An object is used for at most 512 calls after it has been made");
        HillArms days = new HillArms();
        for (int call = 1; call <= 511; call++) {
            DUE.is("next(1), call " + call, days.next(1), call);
        }
        DUE.is("the 512th call", days.next(1), 512);
        HillArms fogs = new HillArms();
        HillArms notes = new HillArms();
        HillArms tape = new HillArms();
        for (int call = 1; call <= 512; call++) {
            DUE.is("fog, call " + call, fogs.fog(0, 1, 500), call <= 60 ? call - 1 : -1);
            DUE.is("note, call " + call, notes.note(0, 7, 30), call <= 60 ? call - 1 : -1);
            DUE.is("feed, call " + call, tape.feed(1, 2, 3, 4, 5), call <= 22 ? 20 * call : -1);
        }
    }

    private static void theLastCallStillWorks() {
        DUE.about("An object is used for at most 512 calls after it has been made");
        HillArms plays = slowLine();
        HillArms breaks = slowLine();
        HillArms small = Tapes.book("to be", "or not");
        Tapes.year(small, "to be or not to be");
        // some of the 512 calls are gone for the making of each
        for (int call = 0; call < 480; call++) {
            DUE.is("play(500)", plays.play(500), 1);
            DUE.is("broken(60, 10)", breaks.broken(60, 10), -1);
            DUE.is("small(12)", small.small(12), 8);
        }
        DUE.is("what the last play showed", plays.shown(7, 8), 9);
    }

    /** FOG may keep the one SIGN back for a while, but it comes through. */
    private static HillArms slowLine() {
        return Tapes.line(8, "when word#blind do show word;", "when left>0 do show left;",
                "when left>0 and own=0 do show left, write left;", 9);
    }

    private static void constants() {
        DUE.about("public static final int NONE = -1;");
        DUE.is("NONE", HillArms.NONE, -1);
    }

    private static void eightTowersAtFirst() {
        DUE.about("TOWERS 0 .. n less 1 (n 3 to 16; 8 at first).");
        HillArms x = new HillArms();
        DUE.is("TOWERS", x.count(1), 8);
        DUE.is("delay of tower 7", x.delay(7, 0, 0), 1);
        DUE.is("delay of tower 8", x.delay(8, 0, 0), -1);
        DUE.is("fog behind tower 6", x.fog(6, 1, 1), 0);
        DUE.is("fog behind tower 7", x.fog(7, 1, 1), -1);
        DUE.is("note to tower 7", x.note(0, 7, 8), 0);
        DUE.is("note to tower 8", x.note(0, 8, 9), -1);
        x.play(1);
        DUE.is("tower 0", x.shown(0, 1), 0);
        DUE.is("tower 7", x.shown(7, 1), 0);
        DUE.is("tower 8", x.shown(8, 1), -1);
    }

    private static void noProgramsAtFirst() {
        DUE.about("no PROGRAMS (nothing is done)");
        HillArms x = new HillArms();
        DUE.is("message", Tapes.message(x, 5), true);
        DUE.is("nothing is WRITTEN", x.play(500), 0);
        DUE.is("nothing is SENT", x.played(3), 0);
        DUE.is("nothing changes", x.played(2), 0);
        for (int tower = 0; tower < 8; tower++) {
            DUE.is("SIGN of tower " + tower, x.shown(tower, 500), 0);
            for (int c = 0; c < 4; c++) {
                DUE.is("CELL " + c + " of tower " + tower, x.cell(tower, c), 0);
            }
        }
        DUE.is("no FAULT yet", x.fault(), 0);
    }

    private static void nothingElseAtFirst() {
        DUE.about("MESSAGE, FOG, ENTRIES, NOTES; TODAY 0; an empty tape.");
        for (int what = 0; what < 7; what++) {
            DUE.is("count(" + what + ")", new HillArms().count(what), what == 1 ? 8 : 0);
        }
        HillArms x = new HillArms();
        DUE.is("no byte to keep", x.end(1), false);
        DUE.is("the first FOG", x.fog(0, 1, 1), 0);
        DUE.is("the first NOTE", x.note(0, 0, 1), 0);
        DUE.is("the first ENTRY", Tapes.entry(x, "be"), 0);
        DUE.is("the first TEXT of the YEAR", Tapes.year(x, "be"), 1);
        DUE.is("the first bytes", x.feed(0, 0, 0, 0, 0), 20);
        DUE.is("the first day", x.next(0), 0);
        x = new HillArms();
        x.play(9);
        DUE.is("no MESSAGE: no BOOK is the whole of it", x.played(0), 0);
        DUE.is("no TEXTS: no SIGNS", x.small(12), 0);
        DUE.is("no FOG, no MESSAGE: nothing to break", x.broken(9, 1), -1);
    }

    private static void howManyTheTapeHas() {
        DUE.about("Twenty bytes come behind the tape, of each number the highest first: how many it has");
        HillArms x = new HillArms();
        for (int i = 1; i <= 22; i++) {
            DUE.is("feed " + i, x.feed(MAX, MIN, -1, 0, 1), 20 * i);
            DUE.is("count(6)", x.count(6), 20 * i);
        }
        x.end(7);
        DUE.is("behind 7", x.feed(0, 0, 0, 0, 0), 27);
    }

    private static void theHighestByteFirst() {
        DUE.about("Twenty bytes come behind the tape, of each number the highest first: how many it has");
        HillArms x = new HillArms();
        x.feed(0x7a000000, 0, 0, 0, 0);
        x.end(1);
        x.feed(0x61626364, 0x65666768, 0x696a6b6c, 0x6d6e6f70, 0x71727374);
        DUE.is("code", x.code(), 21);
        DUE.is("what was there", x.piece(0), 'z');
        for (int i = 0; i < 20; i++) {
            DUE.is("byte " + i, x.piece(1 + i), 'a' + i);
        }
        // a number below 0 has a highest byte from 128 on, and no byte of it is below 0
        int[] numbers = {0x80010101, 0x01800101, 0x01018001, 0x01010180, 0xff010101};
        for (int number : numbers) {
            x.feed(number, 0, 0, 0, 0);
            x.end(4);
            DUE.is("a SIGN above 63 in " + number, x.message(), false);
        }
        x.feed(0x3f013f01, 0, 0, 0, 0);
        x.end(4);
        DUE.is("SIGNS 63, 1, 63, 1", x.message(), true);
    }

    private static void noMoreThan440() {
        DUE.about("NONE, and none come, if it would have more than 440.");
        int[] sizes = {419, 420, 421, 439, 440};
        int[] due = {439, 440, -1, -1, -1};
        for (int i = 0; i < sizes.length; i++) {
            HillArms x = new HillArms();
            Tapes.put(x, "a".repeat(sizes[i]));
            DUE.is("feed behind " + sizes[i], x.feed(0x62626262, 0, 0, 0, 0), due[i]);
            DUE.is("bytes then", x.count(6), due[i] == -1 ? sizes[i] : due[i]);
            DUE.is("end(60)", x.end(60), true);
            DUE.is("they are the same", x.code(), 60);
            DUE.is("the first one", x.piece(0), 'a');
            DUE.is("the last one", x.piece(59), 'a');
        }
    }

    private static void firstBytesAlone() {
        DUE.about("The tape has its first n bytes alone: true");
        int[] keep = {0, 1, 2, 19, 20};
        for (int n : keep) {
            HillArms x = new HillArms();
            Tapes.put(x, "abcdefghijklmnopqrst");
            DUE.is("end(" + n + ")", x.end(n), true);
            DUE.is("bytes then", x.count(6), n);
            DUE.is("no more of them come back", x.end(n + 1), false);
            DUE.is("code", x.code(), n == 0 ? -1 : n);
            DUE.is("the last of them", x.piece(n - 1), n == 0 ? -1 : 'a' + n - 1);
            DUE.is("the next one", x.piece(n), -1);
        }
    }

    private static void notSoManyOrBelowZero() {
        DUE.about("false, if it has not so many, or n is below 0.");
        int[] sizes = {0, 1, 20, 440};
        for (int size : sizes) {
            HillArms x = new HillArms();
            Tapes.put(x, "a".repeat(size));
            int[] wrong = {-1, size + 1, MIN, MAX, -size - 1};
            for (int n : wrong) {
                DUE.is("end(" + n + ") of " + size, x.end(n), false);
                DUE.is("bytes then", x.count(6), size);
            }
            DUE.is("end(" + size + ") of " + size, x.end(size), true);
        }
    }

    private static void daysToGoOn() {
        DUE.about("TODAY goes on by n days (0 to 999): TODAY; NONE: another n, or it would be behind 999.");
        int[] n = {-1, 0, 1, 998, 999, 1000, MIN, MAX};
        int[] due = {-1, 0, 1, 998, 999, -1, -1, -1};
        for (int i = 0; i < n.length; i++) {
            HillArms x = new HillArms();
            DUE.is("next(" + n[i] + ")", x.next(n[i]), due[i]);
            DUE.is("TODAY then", x.count(0), Math.max(0, due[i]));
        }
    }

    private static void behindTheLastDay() {
        DUE.about("TODAY is day 0 at first, 999 the last one.");
        HillArms x = new HillArms();
        DUE.is("TODAY", x.count(0), 0);
        DUE.is("next(998)", x.next(998), 998);
        int[] wrong = {2, 3, 999, -1, -998, MAX, MIN};
        for (int n : wrong) {
            DUE.is("next(" + n + ") on 998", x.next(n), -1);
            DUE.is("TODAY then", x.count(0), 998);
        }
        DUE.is("next(1) on 998", x.next(1), 999);
        DUE.is("next(0) on 999", x.next(0), 999);
        DUE.is("next(1) on 999", x.next(1), -1);
        DUE.is("next(-1) on 999", x.next(-1), -1);
        DUE.is("TODAY then", x.count(0), 999);
    }

    private static void threeToSixteenTowers() {
        DUE.about("TOWERS are n: true; false: not 3 to 16, or there are FOGS or NOTES.");
        int[] n = {2, 3, 4, 15, 16, 17, 0, -3, MIN, MAX};
        boolean[] due = {false, true, true, true, true, false, false, false, false, false};
        for (int i = 0; i < n.length; i++) {
            HillArms x = new HillArms();
            DUE.is("towers(" + n[i] + ")", x.towers(n[i]), due[i]);
            int then = due[i] ? n[i] : 8;
            DUE.is("TOWERS then", x.count(1), then);
            DUE.is("delay of the last one", x.delay(then - 1, 0, 1), 9);
            DUE.is("delay of one more", x.delay(then, 0, 1), -1);
            DUE.is("fog ahead of the last one", x.fog(then - 2, 1, 1), 0);
            DUE.is("fog behind the last one", x.fog(then - 1, 1, 1), -1);
            x.play(0);
            DUE.is("the last one shows", x.shown(then - 1, 0), 0);
            DUE.is("one more shows", x.shown(then, 0), -1);
        }
    }

    private static void towersWithFogsOrNotes() {
        DUE.about("TOWERS are n: true; false: not 3 to 16, or there are FOGS or NOTES.");
        HillArms x = new HillArms();
        x.fog(0, 0, 1);
        x.note(0, 0, 0);
        DUE.is("a refused FOG and NOTE are none", x.towers(5), true);
        x.fog(0, 500, 500);
        DUE.is("with a FOG", x.towers(6), false);
        DUE.is("as many, with a FOG", x.towers(5), false);
        DUE.is("TOWERS then", x.count(1), 5);
        x = new HillArms();
        x.note(0, 0, 1);
        DUE.is("with a NOTE", x.towers(9), false);
        x.next(999);
        DUE.is("with a NOTE of long ago", x.towers(8), false);
        x.fog(0, 1, 1);
        DUE.is("with both", x.towers(3), false);
        DUE.is("TOWERS then", x.count(1), 8);
        x = new HillArms();
        Tapes.message(x, 5);
        Tapes.entry(x, "be");
        x.next(1);
        x.play(1);
        DUE.is("nothing else is in the way", x.towers(16), true);
    }

    private static void countOfEach() {
        DUE.about("0 TODAY, 1 TOWERS, 2 FOGS, 3 ENTRIES, 4 NOTES, 5 SIGNS of the MESSAGE, 6 bytes of the tape.");
        HillArms x = new HillArms();
        x.towers(16);
        for (int i = 0; i < 61; i++) {
            DUE.is("FOGS", x.count(2), Math.min(i, 60));
            x.fog(14, 1, 500);
            DUE.is("NOTES", x.count(4), Math.min(i, 60));
            x.note(0, 15, 100);
        }
        for (int i = 0; i < 13; i++) {
            DUE.is("ENTRIES", x.count(3), Math.min(i, 12));
            Tapes.entry(x, "x" + (char) ('a' + i));
        }
        Tapes.message(x, Tapes.full(60, 1));
        x.next(999);
        Tapes.put(x, Tapes.full(440, 0));
        int[] due = {999, 16, 60, 12, 60, 60, 440};
        for (int what = 0; what < due.length; what++) {
            DUE.is("count(" + what + ") at its most", x.count(what), due[what]);
        }
    }

    private static void countOfAnother() {
        DUE.about("NONE for another what.");
        HillArms x = new HillArms();
        int[] wrong = {-1, 7, 8, MIN, MAX};
        for (int what : wrong) {
            DUE.is("count(" + what + ")", x.count(what), -1);
        }
    }

    private static void theTapeIsEmptyThen() {
        DUE.about("The tape (empty then, here and below) is the PROGRAM of a kind now");
        String[] tapes = {"be", "BE", "", "b".repeat(440), "when a=0 do sent;"};
        HillArms x = new HillArms();
        for (String tape : tapes) {
            for (int call = 0; call < 10; call++) {
                Tapes.put(x, tape);
                take(x, call);
                DUE.is("bytes behind call " + call + " with '" + tape + "'", x.count(6), 0);
            }
        }
        Tapes.put(x, "be");
        keep(x);
        DUE.is("the others leave the tape alone", x.count(6), 2);
    }

    private static void take(HillArms x, int call) {
        switch (call) {
            case 0 -> x.program(0);
            case 1 -> x.program(3);
            case 2 -> x.message();
            case 3 -> x.entry();
            case 4 -> x.entry();
            case 5 -> x.code();
            case 6 -> x.year();
            case 7 -> x.hills(3);
            case 8 -> x.hills(2);
            default -> x.program(-1);
        }
    }

    private static void keep(HillArms x) {
        x.next(1);
        x.towers(4);
        x.fault();
        x.fog(0, 1, 1);
        x.play(2);
        x.broken(2, 2);
        x.small(1);
        x.right(1, 1, 2);
        x.note(0, 1, 5);
        x.delay(0, 0, 0);
        x.look(0);
        x.smallSet();
        x.hillSet();
        x.count(6);
    }
}
