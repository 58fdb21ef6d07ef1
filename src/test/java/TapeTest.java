/** Promises 1 (a new object), 2 (feed), 3 (end), 4 (next), 5 (towers), 29 (count). */
public final class TapeTest {
    private static final Due DUE = new Due();

    public static void main(String[] args) {
        newObject();
        feedAndEnd();
        bytesOfANumber();
        next();
        towers();
        count();
        whatEmptiesTheTape();
        DUE.end();
    }

    private static void newObject() {
        HillArms x = new HillArms();
        int[] counts = {0, 8, 0, 0, 0, 0, 0};
        for (int what = 0; what < counts.length; what++) {
            DUE.is("new count(" + what + ")", x.count(what), counts[what]);
        }
        DUE.is("new fault", x.fault(), 0);
        DUE.is("new shown", x.shown(0, 0), -1);
        DUE.is("new cell", x.cell(0, 4), -1);
        DUE.is("new written", x.written(0), -1);
        for (int what = -1; what < 5; what++) {
            DUE.is("new played", x.played(what), -1);
        }
        DUE.is("new fogAt", x.fogAt(0, 0), -1);
        DUE.is("new piece", x.piece(0), -1);
        DUE.is("new smallSet", x.smallSet(), -1);
        DUE.is("new hillSet", x.hillSet(), 0);
        DUE.is("new small", x.small(12), 0);
        DUE.is("no PROGRAMS: nothing is written", x.play(500), 0);
        DUE.is("nothing changes", x.played(2), 0);
        DUE.is("an empty MESSAGE is WHOLE", x.played(0), 0);
        DUE.is("nothing is shown", x.shown(7, 500), 0);
    }

    private static void feedAndEnd() {
        HillArms x = new HillArms();
        for (int i = 1; i <= 22; i++) {
            DUE.is("feed " + i, x.feed(i, 0, 0, 0, 0), 20 * i);
        }
        DUE.is("feed beyond 440", x.feed(1, 1, 1, 1, 1), -1);
        DUE.is("none came", x.count(6), 440);
        DUE.is("end(441)", x.end(441), false);
        DUE.is("end(-1)", x.end(-1), false);
        DUE.is("end(MIN)", x.end(Integer.MIN_VALUE), false);
        DUE.is("end(MAX)", x.end(Integer.MAX_VALUE), false);
        DUE.is("still 440", x.count(6), 440);
        DUE.is("end(440)", x.end(440), true);
        DUE.is("end(421)", x.end(421), true);
        DUE.is("421 and 20 are too many", x.feed(1, 1, 1, 1, 1), -1);
        DUE.is("end(420)", x.end(420), true);
        DUE.is("420 and 20 are not", x.feed(1, 1, 1, 1, 1), 440);
        DUE.is("end(3)", x.end(3), true);
        DUE.is("3 are left", x.count(6), 3);
        DUE.is("no more than 3", x.end(4), false);
        DUE.is("feed behind 3", x.feed(0, 0, 0, 0, 0), 23);
        DUE.is("end(0)", x.end(0), true);
        DUE.is("end(0) of none", x.end(0), true);
    }

    private static void bytesOfANumber() {
        HillArms x = new HillArms();
        x.feed(0x61620000, 0, 0, 0, 0);
        x.end(2);
        x.feed(0x63646566, 0x6768696a, 0x6b6c6d6e, 0x6f707172, 0x73747576);
        DUE.is("code", x.code(), 22);
        for (int i = 0; i < 22; i++) {
            DUE.is("byte " + i, x.piece(i), 'a' + i);
        }
        x.feed(0xff000000, 0, 0, 0, 0);
        x.end(1);
        DUE.is("a byte of 255 is no SIGN", x.message(), false);
    }

    private static void next() {
        HillArms x = new HillArms();
        DUE.is("next(-1)", x.next(-1), -1);
        DUE.is("next(1000)", x.next(1000), -1);
        DUE.is("next(MAX)", x.next(Integer.MAX_VALUE), -1);
        DUE.is("next(MIN)", x.next(Integer.MIN_VALUE), -1);
        DUE.is("next(0)", x.next(0), 0);
        DUE.is("next(5)", x.next(5), 5);
        DUE.is("next(995)", x.next(995), -1);
        DUE.is("it stays", x.count(0), 5);
        DUE.is("next(994)", x.next(994), 999);
        DUE.is("next(1)", x.next(1), -1);
        DUE.is("next(0)", x.next(0), 999);
        DUE.is("at once", new HillArms().next(999), 999);
    }

    private static void towers() {
        HillArms x = new HillArms();
        int[] wrong = {2, 17, 0, -1, Integer.MIN_VALUE, Integer.MAX_VALUE};
        for (int n : wrong) {
            DUE.is("towers(" + n + ")", x.towers(n), false);
        }
        DUE.is("they stay", x.count(1), 8);
        DUE.is("towers(3)", x.towers(3), true);
        DUE.is("they are 3", x.count(1), 3);
        DUE.is("towers(16)", x.towers(16), true);
        DUE.is("FOG", x.fog(14, 1, 1), 0);
        DUE.is("towers with FOG", x.towers(16), false);
        HillArms y = new HillArms();
        y.note(7, 7, 1);
        DUE.is("towers with a NOTE", y.towers(8), false);
        DUE.is("they stay", y.count(1), 8);
        playsKeepTheirTowers();
    }

    private static void playsKeepTheirTowers() {
        HillArms x = new HillArms();
        x.towers(3);
        x.play(2);
        x.towers(16);
        DUE.is("no tower 3 in that play", x.shown(3, 0), -1);
        DUE.is("tower 2 in that play", x.shown(2, 2), 0);
        x.play(4);
        x.towers(3);
        DUE.is("tower 15 in that play", x.cell(15, 4), 4);
    }

    private static void count() {
        HillArms x = new HillArms();
        x.next(7);
        x.towers(5);
        x.fog(0, 1, 2);
        x.fog(0, 1, 2);
        Tapes.put(x, "be");
        x.entry();
        x.note(0, 4, 20);
        x.note(1, 1, 3);
        x.note(1, 1, 3);
        Tapes.put(x, 1, 2, 63, 4);
        x.message();
        Tapes.put(x, 1, 2, 63, 4, 5, 6);
        int[] due = {7, 5, 2, 1, 3, 4, 6};
        for (int what = 0; what < due.length; what++) {
            DUE.is("count(" + what + ")", x.count(what), due[what]);
        }
        DUE.is("count(7)", x.count(7), -1);
        DUE.is("count(-1)", x.count(-1), -1);
        DUE.is("count(MIN)", x.count(Integer.MIN_VALUE), -1);
    }

    private static void whatEmptiesTheTape() {
        HillArms x = new HillArms();
        for (int call = 0; call < 12; call++) {
            Tapes.put(x, call % 2 == 0 ? "be" : "BE");
            switch (call / 2) {
                case 0 -> x.program(0);
                case 1 -> x.message();
                case 2 -> x.entry();
                case 3 -> x.code();
                case 4 -> x.year();
                default -> x.hills(call % 2 == 0 ? 3 : 2);
            }
            DUE.is("the tape is empty behind call " + call, x.count(6), 0);
        }
        Tapes.put(x, "be");
        x.program(3);
        DUE.is("the tape is empty without such a kind", x.count(6), 0);
    }
}
