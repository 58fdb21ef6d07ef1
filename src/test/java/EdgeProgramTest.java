/** Promises 6 and 7 at their boundaries; each method stands for the words that it names. */
public final class EdgeProgramTest {
    private static final Due DUE = new Due();
    private static final String RULE = "when a=0 do sent;";

    private HillArms x = new HillArms();

    public static void main(String[] args) {
        EdgeProgramTest test = new EdgeProgramTest();
        test.kinds();
        test.whichTowerHasWhichProgram();
        test.blanks();
        test.words();
        test.numbers();
        test.marks();
        test.sevenMarks();
        test.goesOn();
        test.rules();
        test.partsOfARule();
        test.values();
        test.actsAndSums();
        test.onesOfAText();
        test.actsOfAText();
        test.firstFault();
        test.leastOfOneToken();
        test.theEnd();
        test.moreThan400();
        test.readWhole();
        test.tooManyAtTheFirstToken();
        test.itStays();
        test.eachTextCountsAnew();
        test.latestFault();
        DUE.end();
    }

    private void good(String text, int rules) {
        check(text, rules, 0);
    }

    private void bad(String text, int at, int kind) {
        check(text, -1 - at, kind);
    }

    /** Each text has an object of its own, so that none takes part in more than a few calls. */
    private void check(String text, int answer, int kind) {
        x = new HillArms();
        DUE.is("program(2) of '" + text + "'", Tapes.program(x, 2, text), answer);
        DUE.is("fault of '" + text + "'", x.fault(), kind);
        DUE.is("the tape of '" + text + "'", x.count(6), 0);
    }

    private void kinds() {
        DUE.about("-1000: no such kind.");
        int[] kinds = {-1, 0, 1, 2, 3, Integer.MIN_VALUE, Integer.MAX_VALUE, -1000};
        for (int kind : kinds) {
            boolean known = kind >= 0 && kind <= 2;
            HillArms y = new HillArms();
            DUE.is("program(" + kind + ")", Tapes.program(y, kind, RULE), known ? 1 : -1000);
            DUE.is("an empty one of " + kind, Tapes.program(y, kind, ""), known ? 0 : -1000);
            DUE.is("a wrong one of " + kind, Tapes.program(y, kind, "?"), known ? -1 : -1000);
        }
    }

    private void whichTowerHasWhichProgram() {
        DUE.about("PROGRAMS: of the first tower (kind 0), of the last one (1), of all others (2)");
        int[] sizes = {3, 4, 8, 16};
        for (int n : sizes) {
            HillArms y = Tapes.line(n, "when own=0 do show 1;", "when own=0 do show 2;",
                    "when own=0 do show 3;");
            y.play(1);
            for (int tower = 0; tower < n; tower++) {
                int due = tower == 0 ? 1 : tower == n - 1 ? 3 : 2;
                DUE.is("tower " + tower + " of " + n, y.shown(tower, 1), due);
            }
        }
    }

    private void blanks() {
        DUE.about("TOKENS, with blanks (32, 10) between them or not");
        good("when a = 0 do show 1 + 2 , sent ;", 1);
        good("when a=0 do show 1+2,sent;when a=0 do sent;", 2);
        good(" \n when \n\n a  =\n0\ndo\nsent  ;\n \n", 1);
        for (int b = 0; b < 256; b++) {
            boolean blank = b == 32 || b == 10;
            boolean runsOn = b >= 'a' && b <= 'z' || b >= '0' && b <= '9';
            String text = "when" + (char) b + "a=0 do sent;";
            check(text, blank ? 1 : runsOn ? -1 : -5, blank ? 0 : 1);
            String before = (char) b + RULE;
            check(before, blank ? 1 : -1, blank ? 0 : 1);
            String behind = RULE + (char) b;
            check(behind, blank ? 1 : -1 - RULE.length(), blank ? 0 : 1);
        }
    }

    private void words() {
        DUE.about("WORDS: small letters, 1 to 5");
        String[] fives = {"right", "blind"};
        for (String word : fives) {
            good("when " + word + "=0 do sent;", 1);
            bad("when " + word.substring(0, 4) + "=0 do sent;", 5, 1);
            bad("when " + word + "s=0 do sent;", 5, 1);
        }
        good("when a=0 do write a;", 1);
        bad("when a=0 do writ a;", 12, 1);
        bad("when a=0 do writes a;", 12, 1);
        bad("when a=0 do writea;", 12, 1);
        for (int b = 'a'; b <= 'z'; b++) {
            check("when " + (char) b + "=0 do sent;", b <= 'd' ? 1 : -6, b <= 'd' ? 0 : 1);
        }
        char[] noLetters = {'`', '{', '@', 'A', 'B', 'Z', '[', 0xe1, 0xff};
        for (char c : noLetters) {
            bad("when " + c + "=0 do sent;", 5, 1);
            bad("when lef" + c + "=0 do sent;", 5, 1);
        }
        bad("When a=0 do sent;", 0, 1);
        bad("when a=0 do senT;", 12, 1);
    }

    private void numbers() {
        DUE.about("NUMBERS: 1 or 2 digits");
        String[] right = {"0", "9", "00", "09", "10", "63", "64", "99"};
        for (String number : right) {
            good("when a=" + number + " do sent;", 1);
            good("when " + number + "=a do sent;", 1);
            good("when a=0 do show " + number + "+" + number + ";", 1);
        }
        String[] wrong = {"000", "100", "099", "001", "1234567890", "-1", "/", ":", "1.", "0x"};
        for (String number : wrong) {
            bad("when " + number + "=a do sent;", number.equals("1.") ? 6 : 5, 1);
            bad("when a=0 do show " + number + ";", number.equals("1.") ? 18 : 17, 1);
        }
        HillArms y = Tapes.line(3, "", "when 09=9 and 00=0 and 99>98 do a is 07, b is 10;", "");
        y.play(1);
        DUE.is("07", y.cell(1, 0), 7);
        DUE.is("10", y.cell(1, 1), 10);
    }

    private void marks() {
        DUE.about("ONE: VALUE R VALUE, R one of < = > # (unlike).");
        for (int b = 0; b < 256; b++) {
            String text = "when a" + (char) b + "0 do sent;";
            boolean blank = b == 32 || b == 10;
            boolean runsOn = b >= 'a' && b <= 'z' || b >= '0' && b <= '9';
            boolean mark = b == '<' || b == '=' || b == '>' || b == '#';
            int at = runsOn ? 5 : blank ? 7 : 6;
            check(text, mark ? 1 : -1 - at, mark ? 0 : 1);
        }
        String[] two = {"<=", ">=", "==", "<>", "#=", "=<"};
        for (String marks : two) {
            bad("when a" + marks + "0 do sent;", 7, 1);
        }
    }

    private void sevenMarks() {
        DUE.about("NUMBERS: 1 or 2 digits; ; , + < = > #.");
        String[] heads = {"when a=0 do sent", "when a=0 do show a", "when a=0 do sent"};
        String[] tails = {" sent;", " a;", ""};
        String right = ",+;";
        for (int i = 0; i < heads.length; i++) {
            for (int b = 33; b < 256; b++) {
                boolean runsOn = b >= 'a' && b <= 'z' || b >= '0' && b <= '9';
                if (runsOn) {
                    continue;
                }
                String text = heads[i] + (char) b + tails[i];
                int at = heads[i].length();
                if (b == right.charAt(i)) {
                    good(text, 1);
                } else if (b == ';') {
                    bad(text, at + 2, 1);
                } else if (b == ',' || b == '+' && i == 1) {
                    bad(text, i == 2 ? at + 1 : i == 0 ? at : at + 3, 1);
                } else {
                    bad(text, at, 1);
                }
            }
        }
    }

    private void goesOn() {
        DUE.about("(A WORD, NUMBER goes on as long as small letters and digits do; what is not as told is no TOKEN.)");
        bad("when a0=0 do sent;", 5, 1);
        bad("when 0a=0 do sent;", 5, 1);
        bad("when a=0do sent;", 7, 1);
        bad("when a=0 do show1;", 12, 1);
        bad("when a=0 do sent1;", 12, 1);
        bad("whena=0 do sent;", 0, 1);
        bad("when1=0 do sent;", 0, 1);
        bad("when a=1b do sent;", 7, 1);
        bad("when a=0 do a is 1b;", 17, 1);
        bad("when a=0 do ais 1;", 12, 1);
        bad("1when a=0 do sent;", 0, 1);
        bad(RULE + "when1", RULE.length(), 1);
        good("when a=0 do show 1+a,a is 1;", 1);
    }

    private void rules() {
        DUE.about("TEXT: { RULE }, 20 at most.");
        int[] counts = {0, 1, 2, 19, 20};
        for (int n : counts) {
            good(RULE.repeat(n), n);
        }
        bad(RULE.repeat(21), 340, 2);
        bad(RULE.repeat(22), 340, 2);
        bad(RULE.repeat(20) + "\n\n" + RULE, 342, 2);
    }

    private void partsOfARule() {
        DUE.about("RULE: 'when' ONE { 'and' ONE } 'do' ACT { , ACT } ; .");
        bad("when do sent;", 5, 1);
        good("when a=0 do sent;", 1);
        good("when a=0 and b=0 do sent;", 1);
        good("when a=0 and b=0 and c=0 do sent,sent,sent;", 1);
        bad("when a=0 and do sent;", 13, 1);
        bad("when a=0 and and b=0 do sent;", 13, 1);
        bad("when a=0 b=0 do sent;", 9, 1);
        bad("when a=0 do ;", 12, 1);
        bad("when a=0 do sent,;", 17, 1);
        bad("when a=0 do sent,,sent;", 17, 1);
        bad("when a=0 do sent sent;", 17, 1);
        bad("when a=0 do sent;;", 17, 1);
        bad("when a=0 sent;", 9, 1);
        bad("and a=0 do sent;", 0, 1);
        bad("when when a=0 do sent;", 5, 1);
        bad("when a=0 do do sent;", 12, 1);
        bad("when a=0 do sent when a=0 do sent;", 17, 1);
    }

    private void values() {
        DUE.about("VALUE: 'left' | 'right' | 'own' | 'time' | 'word' | 'blind' | CELL | NUMBER. CELL: 'a' | 'b' | 'c' | 'd'.");
        String[] right = {"left", "right", "own", "time", "word", "blind", "a", "b", "c", "d", "7"};
        for (String value : right) {
            good("when " + value + "=0 do sent;", 1);
            good("when 0=" + value + " do sent;", 1);
            good("when 0=0 do show " + value + ",a is " + value + ",write 1+" + value + ";", 1);
        }
        String[] wrong = {"when", "and", "do", "show", "is", "write", "sent", "e", "x", ";", ",", "+",
            "<", "=", ">", "#"};
        for (String value : wrong) {
            bad("when " + value + " = 0 do sent;", 5, 1);
            bad("when 0 = " + value + " do sent;", 9, 1);
            bad("when 0=0 do show " + value + " ;", 17, 1);
            bad("when 0=0 do show 1 + " + value + " ;", 21, 1);
        }
    }

    private void actsAndSums() {
        DUE.about("ACT: 'show' SUM | CELL 'is' SUM | 'write' SUM | 'sent'. SUM: VALUE [ + VALUE ].");
        String[] heads = {"show", "a is", "b is", "c is", "d is", "write"};
        for (String head : heads) {
            String start = "when 0=0 do " + head + " ";
            bad(start + ";", start.length(), 1);
            bad(start + "+1;", start.length(), 1);
            good(start + "1;", 1);
            bad(start + "1+;", start.length() + 2, 1);
            good(start + "1+2;", 1);
            bad(start + "1+2+3;", start.length() + 3, 1);
            bad(start + "1 2;", start.length() + 2, 1);
        }
        good("when 0=0 do sent;", 1);
        bad("when 0=0 do sent 1;", 17, 1);
        bad("when 0=0 do a 1;", 14, 1);
        bad("when 0=0 do show is 1;", 17, 1);
        String[] noCell = {"left", "right", "own", "time", "word", "blind", "when", "and", "do", "is", "e",
            "7", "99", ";", ",", "+", "<", "=", ">", "#"};
        for (String token : noCell) {
            bad("when 0=0 do " + token + " is 1;", 12, 1);
            bad("when 0=0 do " + token + " 1;", 12, 1);
            bad("when 0=0 do " + token + ";", 12, 1);
        }
        bad("when 0=0 do a = 1;", 14, 1);
    }

    private void onesOfAText() {
        DUE.about("No more than 40 ONES, 40 ACTS in a text.");
        String ones = "when 0=0" + " and 0=0".repeat(38);
        good(ones + " do sent;", 1);
        good(ones + " and 0=0 do sent;", 1);
        bad(ones + " and 0=0 and 1=1 do sent;", ones.length() + 13, 2);
        String half = "when 0=0" + " and 0=0".repeat(18) + " do sent;";
        good(half + half + "when 1=1 do sent;", 3);
        good(half + half + "when 1=1 and 1=1 do sent;", 3);
        bad(half + half + "when 1=1 and 1=1 and 1=1 do sent;", 2 * half.length() + 21, 2);
        bad(half + half + "when 1=1 and 1=1 do sent;when 1=1 do sent;", 2 * half.length() + 30, 2);
    }

    private void actsOfAText() {
        DUE.about("No more than 40 ONES, 40 ACTS in a text.");
        String acts = "when 0=0 do sent" + ",sent".repeat(38);
        good(acts + ";", 1);
        good(acts + ",sent;", 1);
        bad(acts + ",sent,sent;", acts.length() + 6, 2);
        good(acts + ",a is 1+2;", 1);
        bad(acts + ",a is 1+2,b is 3;", acts.length() + 10, 2);
        String half = "when 0=0 do sent" + ",sent".repeat(18) + ";";
        good(half + half + "when 1=1 do sent,sent;", 3);
        bad(half + half + "when 1=1 do sent,sent,sent;", 2 * half.length() + 22, 2);
        bad(half + half + "when 1=1 do sent,sent;when 1=1 do show 1;", 2 * half.length() + 34, 2);
    }

    private void firstFault() {
        DUE.about("FAULTS, the first along the text, of one TOKEN the least: 1 no TOKEN, or one that can't come (at it;");
        bad("when a=0 do sent? ?", 16, 1);
        bad("when ? do ! ;", 5, 1);
        bad("when a=0 do sent;?when", 17, 1);
        // a 41st ONE ahead of what is no TOKEN, and the other way round
        String ones = "when 0=0" + " and 0=0".repeat(39);
        bad(ones + " and 1 ? do", ones.length() + 5, 2);
        bad(ones + " ? and 1=1", ones.length() + 1, 1);
        bad(RULE.repeat(20) + "when ?", 340, 2);
        bad(RULE.repeat(20) + "? when", 340, 1);
    }

    private void leastOfOneToken() {
        DUE.about("FAULTS, the first along the text, of one TOKEN the least");
        String rules = RULE.repeat(20);
        String[] notWhen = {"do", "a", ";", "?", "0", "whens", "100", "and"};
        for (String token : notWhen) {
            bad(rules + token, 340, 1);
        }
        bad(rules + "when", 340, 2);
        String ones = "when 0=0" + " and 0=0".repeat(39) + " and ";
        String[] noValue = {"do", "when", "=", "?", "100", "show", "e", ";"};
        for (String token : noValue) {
            bad(ones + token, ones.length(), 1);
        }
        bad(ones + "a", ones.length(), 2);
        bad(ones + "99", ones.length(), 2);
        String acts = "when 0=0 do sent" + ",sent".repeat(39) + ",";
        String[] noAct = {"left", "is", "1", "?", ";", ",", "do", "e"};
        for (String token : noAct) {
            bad(acts + token, acts.length(), 1);
        }
        String[] act = {"sent", "show", "write", "a", "d"};
        for (String token : act) {
            bad(acts + token, acts.length(), 2);
        }
    }

    private void theEnd() {
        DUE.about("(at it; the end: how many bytes there are;");
        String[] tokens = "when a = 0 and 1 < b do c is d + 2 , sent ; when left # own do show 1 ;".split(" ");
        StringBuilder text = new StringBuilder();
        int rules = 0;
        for (String token : tokens) {
            text.append(text.length() == 0 ? "" : " ").append(token);
            if (token.equals(";")) {
                rules++;
                good(text.toString(), rules);
                good(text + " \n", rules);
            } else {
                bad(text.toString(), text.length(), 1);
                bad(text + "\n", text.length() + 1, 1);
            }
        }
        good("", 0);
        good(" ", 0);
        String whole = " ".repeat(400 - 4) + "when";
        bad(whole, 400, 1);
        bad(whole.substring(1), 399, 1);
    }

    private void moreThan400() {
        DUE.about("(kind 0), of the last one (1), of all others (2): texts of at most 400 bytes.");
        DUE.about("400, if there are more and no FAULT is ahead:");
        int rest = 400 - RULE.length();
        good(RULE + " ".repeat(rest - 1), 1);
        good(RULE + " ".repeat(rest), 1);
        bad(RULE + " ".repeat(rest + 1), 400, 1);
        good(" ".repeat(rest) + RULE, 1);
        bad(" ".repeat(rest + 1) + RULE, 400, 1);
        bad(" ".repeat(rest) + RULE + "\n", 400, 1);
        bad(" ".repeat(rest) + RULE + RULE, 400, 1);
        bad(" ".repeat(rest) + RULE + "?", 400, 1);
        good(" ".repeat(400), 0);
        bad(" ".repeat(401), 400, 1);
        bad(" ".repeat(440), 400, 1);
        // FAULTS just ahead of it, and at it
        bad(" ".repeat(398) + "?" + " ".repeat(41), 398, 1);
        bad(" ".repeat(399) + "?" + " ".repeat(40), 399, 1);
        bad(" ".repeat(400) + "?" + " ".repeat(39), 400, 1);
        bad(RULE.repeat(20) + " ".repeat(59) + "when", 399, 2);
        bad(RULE.repeat(20) + " ".repeat(60) + "when", 400, 1);
    }

    private void readWhole() {
        DUE.about("TOKENS that begin ahead of it are read whole)");
        bad(" ".repeat(397) + "when a", 400, 1);
        bad(" ".repeat(396) + "whens", 396, 1);
        bad(" ".repeat(397) + "whens", 397, 1);
        bad(" ".repeat(399) + "when", 400, 1);
        bad(" ".repeat(399) + "w", 399, 1);
        bad(" ".repeat(399) + "whe", 399, 1);
        bad(" ".repeat(399) + "when1", 399, 1);
        bad(" ".repeat(399) + "w".repeat(41), 399, 1);
        bad(" ".repeat(400) + "whe", 400, 1);
        String start = "when a=0 do show";
        String blanks = " ".repeat(399 - start.length());
        bad(start + blanks + "1", 400, 1);
        bad(start + blanks + "12", 400, 1);
        bad(start + blanks + "123", 399, 1);
        bad(start + blanks.substring(1) + "12", 400, 1);
        bad(start + blanks.substring(1) + "123", 398, 1);
        bad(start + blanks + "right;", 400, 1);
        bad(start + blanks + "rights;", 399, 1);
    }

    private void tooManyAtTheFirstToken() {
        DUE.about("2 a 21st RULE, a 41st ONE, a 41st ACT (at its first TOKEN).");
        bad(RULE.repeat(20) + "  when a=0 do sent;", 342, 2);
        String ones = "when 0=0" + " and 0=0".repeat(39);
        bad(ones + " and\n\nleft > right do sent;", ones.length() + 6, 2);
        String acts = "when 0=0 do sent" + ",sent".repeat(39);
        bad(acts + " , \n d is 1 + 2;", acts.length() + 5, 2);
        bad(acts + ",write 1;", acts.length() + 1, 2);
    }

    private void itStays() {
        DUE.about("how many RULES; -1 less the place of a FAULT: it stays;");
        String[] wrong = {"?", "when own=0 do show 9; ?", "when own=0 do show 9",
            "when own=0 do show 9;" + " ".repeat(400), "when own=0 do show 9;".repeat(21),
            "when own=0 do show 9" + ",show 9".repeat(40) + ";"};
        for (int kind = 0; kind < 3; kind++) {
            HillArms y = new HillArms();
            int tower = kind == 0 ? 0 : kind == 1 ? 7 : 3;
            Tapes.program(y, kind, "when own=0 do show 7;when own=7 do show 8;");
            for (String text : wrong) {
                DUE.is("a FAULT in '" + text + "'", Tapes.program(y, kind, text) < 0, true);
                y.play(2);
                DUE.is("kind " + kind + " stays", y.shown(tower, 1), 7);
                DUE.is("kind " + kind + " stays", y.shown(tower, 2), 8);
            }
            DUE.is("another kind is none", Tapes.program(y, 3, "when own=0 do show 9;"), -1000);
            y.play(2);
            DUE.is("kind " + kind + " stays", y.shown(tower, 2), 8);
            DUE.is("an empty one is one", Tapes.program(y, kind, ""), 0);
            y.play(2);
            DUE.is("kind " + kind + " does nothing now", y.shown(tower, 2), 0);
        }
    }

    private void eachTextCountsAnew() {
        DUE.about("The tape (empty then, here and below) is the PROGRAM of a kind now: how many RULES;");
        String ones = "when own=0" + " and own=0".repeat(34) + " do show 7;";
        String acts = "when own=0 do show 1" + ",show 8".repeat(39) + ";";
        String rules = "when own=1 do sent;".repeat(19) + "when own=0 do show 9;";
        String few = "when own=0 and a=0 do show 6;";
        HillArms y = new HillArms();
        for (int round = 0; round < 2; round++) {
            becomes(y, ones, 1, 7);
            becomes(y, acts, 1, 8);
            becomes(y, rules, 20, 9);
            becomes(y, few, 1, 6);
            DUE.is("a FAULT late in the text", Tapes.program(y, 2, acts.replace(";", ",sent;")) < 0, true);
            DUE.is("a FAULT", Tapes.program(y, 2, ones + "?"), -1 - ones.length());
            becomes(y, few + few, 2, 6);
            becomes(y, "", 0, 0);
        }
    }

    private static void becomes(HillArms y, String text, int rules, int shown) {
        DUE.is("RULES of " + text, Tapes.program(y, 2, text), rules);
        y.play(1);
        DUE.is("SIGN by " + text, y.shown(1, 1), shown);
    }

    private void latestFault() {
        DUE.about("The kind of the FAULT of the latest program() that did not tell -1000; 0 without one and ahead of any.");
        HillArms y = new HillArms();
        DUE.is("ahead of any", y.fault(), 0);
        Tapes.program(y, 3, "?");
        DUE.is("behind -1000 alone", y.fault(), 0);
        Tapes.program(y, 0, "?");
        DUE.is("1", y.fault(), 1);
        Tapes.program(y, 3, RULE);
        DUE.is("behind -1000", y.fault(), 1);
        Tapes.program(y, 1, RULE.repeat(21));
        DUE.is("2", y.fault(), 2);
        Tapes.program(y, -1, "?");
        DUE.is("behind -1000", y.fault(), 2);
        Tapes.program(y, 2, RULE.repeat(20));
        DUE.is("without one", y.fault(), 0);
        Tapes.program(y, 2, RULE.repeat(21));
        Tapes.program(y, 2, "");
        DUE.is("without one in an empty text", y.fault(), 0);
    }
}
