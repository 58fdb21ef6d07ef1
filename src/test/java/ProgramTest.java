/** Promises 6 (program), 7 (fault). */
public final class ProgramTest {
    private static final Due DUE = new Due();
    private static final String RULE = "when a=0 do sent;";

    private HillArms x = new HillArms();

    public static void main(String[] args) {
        ProgramTest test = new ProgramTest();
        test.kinds();
        test.rightOnes();
        test.noTokens();
        test.tokensThatCannotCome();
        test.tooEarlyEnds();
        test.tooMany();
        test.tooLong();
        test.aFaultyOneLeavesTheProgram();
        DUE.end();
    }

    private void good(String text, int rules) {
        x = new HillArms();
        DUE.is("program(2) of " + text, Tapes.program(x, 2, text), rules);
        DUE.is("fault of " + text, x.fault(), 0);
    }

    private void bad(String text, int at, int kind) {
        x = new HillArms();
        DUE.is("program(2) of " + text, Tapes.program(x, 2, text), -1 - at);
        DUE.is("fault of " + text, x.fault(), kind);
    }

    private void kinds() {
        DUE.is("fault ahead of any", x.fault(), 0);
        int[] wrong = {3, -1, Integer.MAX_VALUE, Integer.MIN_VALUE};
        for (int kind : wrong) {
            Tapes.put(x, "?");
            DUE.is("program(" + kind + ")", x.program(kind), -1000);
            DUE.is("no fault of that", x.fault(), 0);
        }
        bad("?", 0, 1);
        DUE.is("program(3)", x.program(3), -1000);
        DUE.is("the fault is the one before", x.fault(), 1);
        for (int kind = 0; kind < 3; kind++) {
            Tapes.put(x, RULE);
            DUE.is("program(" + kind + ")", x.program(kind), 1);
        }
        DUE.is("none now", x.fault(), 0);
    }

    private void rightOnes() {
        good("", 0);
        good(" \n  \n", 0);
        good(RULE, 1);
        good("\n" + RULE + " " + RULE + "\n", 2);
        good("when left<right and own=time and word>blind and a#b do sent;", 1);
        good("when c=d do show left+right,a is own + time , b is word,c is blind+0,d is 99,"
                + "write a+b, write 7,sent;", 1);
        good("when 0=99 do a is a;", 1);
        good("when\na\n=\n0\ndo\nshow\n1\n+\n2\n,\nsent\n;\n", 1);
        good("when 00=07 do d is 1+d;", 1);
    }

    private void noTokens() {
        bad("Whe", 0, 1);
        bad("\twhen a=0 do sent;", 0, 1);
        bad("when\ra=0 do sent;", 4, 1);
        bad("when a=100 do sent;", 7, 1);
        bad("when a=0x do sent;", 7, 1);
        bad("when a1=0 do sent;", 5, 1);
        bad("when1 a=0 do sent;", 0, 1);
        bad("whena=0 do sent;", 0, 1);
        bad("when a=0do sent;", 7, 1);
        bad("when a=-1 do sent;", 7, 1);
        bad("when blinds=0 do sent;", 5, 1);
        bad("when a=0 do sent.", 16, 1);
        bad(RULE + "\u0000", RULE.length(), 1);
        bad(RULE + "\u00ff", RULE.length(), 1);
        bad("when a!0 do sent;", 6, 1);
    }

    private void tokensThatCannotCome() {
        bad(";", 0, 1);
        bad("do sent;", 0, 1);
        bad("when do sent;", 5, 1);
        bad("when a do sent;", 7, 1);
        bad("when a=do sent;", 7, 1);
        bad("when a==0 do sent;", 7, 1);
        bad("when a=0 or b=0 do sent;", 9, 1);
        bad("when a=0, b=0 do sent;", 8, 1);
        bad("when a=0 and do sent;", 13, 1);
        bad("when a=0+1 do sent;", 8, 1);
        bad("when e=0 do sent;", 5, 1);
        bad("when show=0 do sent;", 5, 1);
        bad("when a=0 do;", 11, 1);
        bad("when a=0 do left is 1;", 12, 1);
        bad("when a=0 do 1 is 1;", 12, 1);
        bad("when a=0 do a=1;", 13, 1);
        bad("when a=0 do a is;", 16, 1);
        bad("when a=0 do show;", 16, 1);
        bad("when a=0 do show 1+;", 19, 1);
        bad("when a=0 do show 1+2+3;", 20, 1);
        bad("when a=0 do sent 1;", 17, 1);
        bad("when a=0 do sent,;", 17, 1);
        bad("when a=0 do sent and b is 1;", 17, 1);
        bad("when a=0 do sent;;", 17, 1);
        bad("when a=0 do sent when", 17, 1);
        bad("when a=0 do send;", 12, 1);
        bad("when a=0 do is 1;", 12, 1);
    }

    private void tooEarlyEnds() {
        String rule = "when a = 0 do b is 1 + 2 , sent ;";
        String[] tokens = rule.split(" ");
        String text = "";
        for (int i = 0; i < tokens.length - 1; i++) {
            text = i == 0 ? tokens[0] : text + " " + tokens[i];
            bad(text, text.length(), 1);
            bad(text + " \n ", text.length() + 3, 1);
        }
        good(rule, 1);
    }

    private void tooMany() {
        good(RULE.repeat(20), 20);
        good(RULE.repeat(20) + " \n", 20);
        bad(RULE.repeat(21), 340, 2);
        bad(RULE.repeat(20) + "\n when", 342, 2);
        bad(RULE.repeat(20) + " what", 341, 1);
        bad(RULE.repeat(20) + ";", 340, 1);
        String ones = "when a=0" + " and a=0".repeat(39);
        good(ones + " do sent;", 1);
        bad(ones + " and b<1 do sent;", ones.length() + 5, 2);
        bad(ones + " and do", ones.length() + 5, 1);
        bad(ones + " and", ones.length() + 4, 1);
        bad(ones + " and b", ones.length() + 5, 2);
        String half = "when a=0" + " and a=0".repeat(19) + " do sent;";
        good(half + half, 2);
        bad(half + half + " when 1", 2 * half.length() + 6, 2);
        bad(half + half + " when is", 2 * half.length() + 6, 1);
        String acts = "when a=0 do sent" + ",sent".repeat(39);
        good(acts + ";", 1);
        bad(acts + ",sent;", acts.length() + 1, 2);
        bad(acts + ", a", acts.length() + 2, 2);
        bad(acts + ", left", acts.length() + 2, 1);
        bad(acts + ",", acts.length() + 1, 1);
        String few = "when a=0 do sent" + ",sent".repeat(19) + ";";
        good(few + few, 2);
        bad(few + few + "when a=0 do show", 2 * few.length() + 12, 2);
    }

    private void tooLong() {
        good(RULE + " ".repeat(400 - RULE.length()), 1);
        bad(RULE + " ".repeat(401 - RULE.length()), 400, 1);
        bad(" ".repeat(440), 400, 1);
        good(" ".repeat(400), 0);
        bad(" ".repeat(399) + "when", 400, 1);
        bad(" ".repeat(399) + "whens", 399, 1);
        bad(" ".repeat(399) + "abcdef", 399, 1);
        bad(" ".repeat(399) + "do", 399, 1);
        bad(" ".repeat(400) + "do", 400, 1);
        bad(" ".repeat(396) + "when", 400, 1);
        bad(" ".repeat(397) + "when", 400, 1);
        String rule = "when a=0 do a is 12";
        bad(rule + " ".repeat(399 - rule.length()) + "+3;", 400, 1);
        bad(" ".repeat(399 - rule.length() + 1) + rule + ";", 400, 1);
        bad(" ".repeat(399 - rule.length() + 1) + rule + "3;", 398, 1);
        String many = RULE.repeat(20);
        bad(many + " ".repeat(59) + "when", 399, 2);
        bad(many + " ".repeat(60) + "when", 400, 1);
        bad(many + " ".repeat(58) + "? ", 398, 1);
        bad("?" + " ".repeat(439), 0, 1);
    }

    private void aFaultyOneLeavesTheProgram() {
        HillArms y = new HillArms();
        Tapes.put(y, "when own=0 do show 7;");
        y.program(2);
        Tapes.put(y, "when own=0 do show 8; when");
        DUE.is("a FAULT", y.program(2), -27);
        y.play(1);
        DUE.is("the PROGRAM stays", y.shown(3, 1), 7);
        Tapes.put(y, "");
        DUE.is("an empty one", y.program(2), 0);
        y.play(1);
        DUE.is("nothing is done", y.shown(3, 1), 0);
    }
}
