import java.util.Arrays;
import java.util.NoSuchElementException;

/** A line of towers on hills that pass signs by arms; ../shared/DOC.md says what each call answers. */
public final class HillArms {
    public static final int NONE = -1;

    private static final int WRONG_CALL = -2;
    private static final int QUARREL = -2;
    private static final int NO_SUCH_KIND = -1000;

    private static final int MOST_TAPE = 440;
    private static final int LAST_DAY = 999;
    private static final int LEAST_TOWERS = 3;
    private static final int MOST_TOWERS = 16;
    private static final int TOWERS_AT_FIRST = 8;
    private static final int CELLS = 4;
    private static final int MOST_TIME = 99;
    private static final int SIGNS = 64;

    private static final int KINDS = 3;
    private static final int KIND_FIRST = 0;
    private static final int KIND_LAST = 1;
    private static final int KIND_OTHER = 2;
    private static final int MOST_PROGRAM = 400;
    private static final int MOST_RULES = 20;
    private static final int MOST_ONES = 40;
    private static final int MOST_ACTS = 40;

    private static final int MOST_MESSAGE = 60;
    private static final int MOST_BOOK = 100;
    private static final int MOST_FOGS = 60;
    private static final int MOST_TICKS = 500;

    private static final int WHOLE = 0;
    private static final int SHORT = 1;
    private static final int WRONG = 2;

    private static final int BREAK_TICKS = 60;
    private static final int BREAK_WIDE = 10;
    private static final int BREAK_TOWERS = 8;
    private static final int BREAK_FOGS = 2;

    private static final int MOST_ENTRIES = 12;
    private static final int MOST_ENTRY = 12;
    private static final int MOST_TEXT = 60;
    private static final int MOST_YEAR = 8;
    private static final int ENTRY_SIGNS = 2;
    private static final int ENTRY_PIECE = 100;

    private static final long SURE = 1_000_000_000_000_000L;
    private static final int LEAST_ODDS = 2;
    private static final int MOST_ODDS = 2000;

    private static final int MOST_NOTES = 60;
    private static final int MOST_MINUTES = 200;
    private static final int LEAST_DELAY = 1;
    private static final int MOST_DELAY = 9;

    private static final int LEAST_HILLS = 3;
    private static final int MOST_HILLS = 14;
    private static final int MOST_DAYS = 8;

    // A TOKEN's code. The codes up to CELL_D are the VALUES: a NUMBER is its own code, so that
    // one row, looked at by code, holds what every VALUE is worth.
    private static final int LEFT = 100;
    private static final int RIGHT = 101;
    private static final int OWN = 102;
    private static final int TIME = 103;
    private static final int WORD = 104;
    private static final int BLIND = 105;
    private static final int CELL_A = 106;
    private static final int CELL_D = 109;
    private static final int VALUES = 110;
    private static final int WHEN = 110;
    private static final int AND = 111;
    private static final int DO = 112;
    private static final int SHOW = 113;
    private static final int IS = 114;
    private static final int WRITE = 115;
    private static final int SENT = 116;
    private static final int SEMICOLON = 117;
    private static final int COMMA = 118;
    private static final int PLUS = 119;
    private static final int LESS = 120;
    private static final int EQUAL = 121;
    private static final int MORE = 122;
    private static final int UNLIKE = 123;
    private static final int NO_TOKEN = -1;
    private static final int END_OF_TEXT = -2;

    private static final int NUMBERS = 100;
    private static final int MOST_DIGITS = 2;
    private static final int MOST_LETTERS = 5;
    // The WORDS in the order of their codes from LEFT on, each in a slot of as many signs.
    private static final String WORDS =
            "left  right own   time  word  blind a     b     c     d     when  and   do    show  is    write sent  ";
    private static final int WORD_SLOT = 6;
    private static final String MARKS = ";,+<=>#";

    private static final int FAULT_TOKEN = 1;
    private static final int FAULT_TOO_MANY = 2;

    private static final int BLANK = 32;
    private static final int LINE_END = 10;

    private final Tape tape;
    private final Crew crew;
    private final Reader reader;
    private final Play latestPlay;
    private final Breaker breaker;
    private final Entries entries;
    private final Pages coded;
    private final Pages yearPages;
    private final int[] pieces;
    private final Delays delays;
    private final HillDays hillDays;
    private Program spare;
    private int latestFault;
    private int today;
    private int pieceCount;
    private int latestSmallSet;
    private int latestHillSet;

    public HillArms() {
        tape = new Tape();
        crew = new Crew();
        reader = new Reader();
        latestPlay = new Play();
        breaker = new Breaker();
        entries = new Entries();
        coded = new Pages(1);
        yearPages = new Pages(MOST_YEAR);
        pieces = new int[MOST_TEXT];
        delays = new Delays();
        hillDays = new HillDays();
        spare = new Program();
        latestSmallSet = NONE;
    }

    public int feed(int a, int b, int c, int d, int e) {
        if (tape.size + 20 > MOST_TAPE) {
            return NONE;
        }
        tape.append(a);
        tape.append(b);
        tape.append(c);
        tape.append(d);
        tape.append(e);
        return tape.size;
    }

    public boolean end(int n) {
        if (n < 0 || n > tape.size) {
            return false;
        }
        tape.size = n;
        return true;
    }

    public int next(int n) {
        if (n < 0 || n > LAST_DAY || today + n > LAST_DAY) {
            return NONE;
        }
        today += n;
        return today;
    }

    public boolean towers(int n) {
        if (n < LEAST_TOWERS || n > MOST_TOWERS || crew.fogs > 0 || delays.notes > 0) {
            return false;
        }
        crew.towers = n;
        return true;
    }

    public int program(int kind) {
        int answer = NO_SUCH_KIND;
        if (kind >= 0 && kind < KINDS) {
            boolean good = reader.read(tape, spare);
            latestFault = reader.faultKind;
            answer = good ? spare.rules : -1 - reader.faultAt;
            if (good) {
                Program old = crew.programs[kind];
                crew.programs[kind] = spare;
                spare = old;
            }
        }
        tape.size = 0;
        return answer;
    }

    public int fault() {
        return latestFault;
    }

    public boolean message() {
        boolean good = crew.takeMessage(tape);
        tape.size = 0;
        return good;
    }

    public int fog(int g, int from, int to) {
        if (crew.fogs >= MOST_FOGS || g < 0 || g >= crew.towers - 1
                || from < 1 || to < from || to > MOST_TICKS) {
            return NONE;
        }
        return crew.addFog(g, from, to);
    }

    public int play(int ticks) {
        if (ticks < 0 || ticks > MOST_TICKS) {
            return NONE;
        }
        latestPlay.run(crew, ticks);
        return latestPlay.line.wrote;
    }

    public int shown(int tower, int tick) {
        if (!latestPlay.hasTower(tower) || tick < 0 || tick > latestPlay.ticks) {
            return NONE;
        }
        return latestPlay.signs[tick * MOST_TOWERS + tower];
    }

    public int cell(int tower, int c) {
        if (!latestPlay.hasTower(tower) || c < 0 || c > CELLS) {
            return NONE;
        }
        Line line = latestPlay.line;
        return c == CELLS ? line.time[tower] : line.cell[tower * CELLS + c];
    }

    public int written(int k) {
        Line line = latestPlay.line;
        return k < 0 || k >= line.wrote || k >= line.book.length ? NONE : line.book[k];
    }

    public int played(int what) {
        if (latestPlay.ticks == NONE) {
            return NONE;
        }
        switch (what) {
            case 0:
                return latestPlay.outcome;
            case 1:
                return latestPlay.line.wrongAt;
            case 2:
                return latestPlay.still;
            case 3:
                return latestPlay.line.sent;
            default:
                return NONE;
        }
    }

    public int broken(int ticks, int wide) {
        if (ticks < 0 || ticks > BREAK_TICKS || wide < 0 || wide > BREAK_WIDE
                || crew.towers > BREAK_TOWERS) {
            return WRONG_CALL;
        }
        return breaker.search(crew, ticks, wide);
    }

    public int fogAt(int k, int what) {
        if (k < 0 || k >= breaker.found) {
            return NONE;
        }
        switch (what) {
            case 0:
                return breaker.foundTick[k];
            case 1:
                return breaker.foundGap[k];
            default:
                return NONE;
        }
    }

    public int entry() {
        boolean good = tape.isText(MOST_ENTRY) && entries.known < MOST_ENTRIES && !entries.has(tape);
        int answer = good ? entries.add(tape) : NONE;
        tape.size = 0;
        return answer;
    }

    public int code() {
        int answer = NONE;
        if (tape.isText(MOST_TEXT)) {
            coded.clear();
            coded.add(tape);
            coded.mark(entries);
            answer = coded.bytes - coded.saving(entries, entries.all());
            pieceCount = coded.cut(entries, pieces);
        }
        tape.size = 0;
        return answer;
    }

    public int piece(int k) {
        return k < 0 || k >= pieceCount || k >= pieces.length ? NONE : pieces[k];
    }

    public int year() {
        boolean good = tape.isText(MOST_TEXT) && yearPages.texts < MOST_YEAR;
        if (good) {
            yearPages.add(tape);
        }
        tape.size = 0;
        return good ? yearPages.texts : NONE;
    }

    public int small(int n) {
        if (n < 0 || n > MOST_ENTRIES) {
            return NONE;
        }
        yearPages.mark(entries);
        latestSmallSet = yearPages.bestSet(entries, n);
        return yearPages.bytes - yearPages.saving(entries, latestSmallSet);
    }

    public int smallSet() {
        return latestSmallSet;
    }

    public long right(int signs, int towers, int r) throws NoSuchElementException {
        if (signs < 1 || signs > MOST_MESSAGE || towers < 1 || towers > MOST_TOWERS
                || r < LEAST_ODDS || r > MOST_ODDS) {
            throw new NoSuchElementException("signs, towers or odds not as told");
        }
        long chance = SURE;
        for (int i = 0; i < signs * towers; i++) {
            chance = chance * (r - 1) / r;
        }
        return chance;
    }

    public int note(int from, int to, int minutes) {
        if (delays.notes >= MOST_NOTES || from < 0 || to < from || to >= crew.towers
                || minutes < 1 || minutes > MOST_MINUTES) {
            return NONE;
        }
        return delays.add(from, to, minutes, today);
    }

    public int delay(int tower, int t, int what) {
        if (tower < 0 || tower >= crew.towers || what < 0 || what > 1) {
            return NONE;
        }
        if (!delays.fit(crew.towers, t)) {
            return QUARREL;
        }
        return what == 0 ? delays.least(tower) : delays.greatest(tower);
    }

    public int look(int t) {
        if (!delays.fit(crew.towers, t)) {
            return QUARREL;
        }
        int widest = 0;
        for (int i = 1; i < crew.towers; i++) {
            if (delays.spread(i) > delays.spread(widest)) {
                widest = i;
            }
        }
        return widest;
    }

    public int hills(int n) {
        boolean good = hillDays.take(tape, n);
        tape.size = 0;
        if (!good) {
            return WRONG_CALL;
        }
        int set = hillDays.fewest();
        if (set == 0) {
            return NONE;
        }
        latestHillSet = set;
        return Integer.bitCount(set);
    }

    public int hillSet() {
        return latestHillSet;
    }

    public int count(int what) {
        switch (what) {
            case 0:
                return today;
            case 1:
                return crew.towers;
            case 2:
                return crew.fogs;
            case 3:
                return entries.known;
            case 4:
                return delays.notes;
            case 5:
                return crew.messageSigns;
            case 6:
                return tape.size;
            default:
                return NONE;
        }
    }

    private static boolean isLetter(int b) {
        return b >= 'a' && b <= 'z';
    }

    private static boolean isDigit(int b) {
        return b >= '0' && b <= '9';
    }

    /** The bytes that were fed and not yet used. */
    private static final class Tape {
        final int[] bytes = new int[MOST_TAPE];
        int size;

        void append(int four) {
            for (int shift = 24; shift >= 0 && size < MOST_TAPE; shift -= 8) {
                bytes[size] = (four >>> shift) & 255;
                size++;
            }
        }

        /** Whether these are small letters with single blanks inside, 1 to most bytes. */
        boolean isText(int most) {
            if (size < 1 || size > most) {
                return false;
            }
            boolean blankMayCome = false;
            for (int i = 0; i < size; i++) {
                boolean letter = isLetter(bytes[i]);
                if (!letter && !(blankMayCome && bytes[i] == BLANK)) {
                    return false;
                }
                blankMayCome = letter;
            }
            return blankMayCome;
        }
    }

    /** The RULES of one kind of tower. */
    private static final class Program {
        final int[] onesEnd = new int[MOST_RULES];
        final int[] actsEnd = new int[MOST_RULES];
        final int[] oneLeft = new int[MOST_ONES];
        final int[] oneMark = new int[MOST_ONES];
        final int[] oneRight = new int[MOST_ONES];
        final int[] act = new int[MOST_ACTS];
        final int[] sumFirst = new int[MOST_ACTS];
        final int[] sumSecond = new int[MOST_ACTS];
        int rules;
        int ones;
        int acts;
        boolean asksTime;

        void clear() {
            rules = 0;
            ones = 0;
            acts = 0;
            asksTime = false;
        }

        void addOne(int left, int mark, int right) {
            if (ones < MOST_ONES) {
                oneLeft[ones] = left;
                oneMark[ones] = mark;
                oneRight[ones] = right;
                ones++;
                asksTime |= left == TIME || right == TIME;
            }
        }

        void addAct(int kind, int first, int second) {
            if (acts < MOST_ACTS) {
                act[acts] = kind;
                sumFirst[acts] = first;
                sumSecond[acts] = second;
                acts++;
                asksTime |= first == TIME || second == TIME;
            }
        }

        void closeRule() {
            if (rules < MOST_RULES) {
                onesEnd[rules] = ones;
                actsEnd[rules] = acts;
                rules++;
            }
        }

        int firstAct(int rule) {
            return rule > 0 ? actsEnd[rule - 1] : 0;
        }

        int firstRuleThatHolds(int[] worth) {
            int one = 0;
            for (int rule = 0; rule < rules; rule++) {
                boolean all = true;
                for (; one < onesEnd[rule] && all; one++) {
                    all = holds(worth[oneLeft[one]], oneMark[one], worth[oneRight[one]]);
                }
                if (all) {
                    return rule;
                }
                one = onesEnd[rule];
            }
            return NONE;
        }

        private static boolean holds(int left, int mark, int right) {
            switch (mark) {
                case LESS:
                    return left < right;
                case EQUAL:
                    return left == right;
                case MORE:
                    return left > right;
                default:
                    return left != right;
            }
        }
    }

    /** Reads the tape as a PROGRAM, one TOKEN at a time, up to the first FAULT. */
    private static final class Reader {
        private int[] bytes;
        private int size;
        private Program into;
        private int token;
        private int at;
        private int behind;
        int faultKind;
        int faultAt;

        Reader() {
            bytes = new int[0];
            into = new Program();
        }

        boolean read(Tape tape, Program target) {
            bytes = tape.bytes;
            size = tape.size;
            into = target;
            into.clear();
            behind = 0;
            faultKind = 0;
            faultAt = 0;
            step();
            for (int i = 0; i < MOST_RULES; i++) {
                if (token == END_OF_TEXT) {
                    return endIsRight();
                }
                if (!readOnes() || !readActs()) {
                    return false;
                }
                into.closeRule();
            }
            if (token == END_OF_TEXT) {
                return endIsRight();
            }
            return refuse(token == WHEN ? FAULT_TOO_MANY : FAULT_TOKEN);
        }

        private boolean endIsRight() {
            return size <= MOST_PROGRAM || refuse(FAULT_TOKEN);
        }

        private boolean refuse(int kind) {
            faultKind = kind;
            faultAt = at;
            return false;
        }

        private boolean readOnes() {
            if (token != WHEN) {
                return refuse(FAULT_TOKEN);
            }
            boolean more = true;
            for (int i = 0; i <= MOST_ONES && more; i++) {
                step();
                if (!readOne()) {
                    return false;
                }
                more = token == AND;
            }
            return token == DO || refuse(FAULT_TOKEN);
        }

        private boolean readOne() {
            if (!isValue()) {
                return refuse(FAULT_TOKEN);
            }
            if (into.ones >= MOST_ONES) {
                return refuse(FAULT_TOO_MANY);
            }
            int left = token;
            step();
            int mark = token;
            if (mark < LESS || mark > UNLIKE) {
                return refuse(FAULT_TOKEN);
            }
            step();
            if (!isValue()) {
                return refuse(FAULT_TOKEN);
            }
            into.addOne(left, mark, token);
            step();
            return true;
        }

        private boolean readActs() {
            boolean more = true;
            for (int i = 0; i <= MOST_ACTS && more; i++) {
                step();
                if (!readAct()) {
                    return false;
                }
                more = token == COMMA;
            }
            if (token != SEMICOLON) {
                return refuse(FAULT_TOKEN);
            }
            step();
            return true;
        }

        private boolean readAct() {
            int kind = token;
            boolean setsCell = kind >= CELL_A && kind <= CELL_D;
            if (!setsCell && kind != SHOW && kind != WRITE && kind != SENT) {
                return refuse(FAULT_TOKEN);
            }
            if (into.acts >= MOST_ACTS) {
                return refuse(FAULT_TOO_MANY);
            }
            step();
            if (kind == SENT) {
                into.addAct(kind, 0, 0);
                return true;
            }
            if (setsCell) {
                if (token != IS) {
                    return refuse(FAULT_TOKEN);
                }
                step();
            }
            if (!isValue()) {
                return refuse(FAULT_TOKEN);
            }
            int first = token;
            int second = 0; // the NUMBER 0: a SUM of one VALUE is that VALUE and nothing
            step();
            if (token == PLUS) {
                step();
                if (!isValue()) {
                    return refuse(FAULT_TOKEN);
                }
                second = token;
                step();
            }
            into.addAct(kind, first, second);
            return true;
        }

        private boolean isValue() {
            return token >= 0 && token < VALUES;
        }

        /** Goes to the next TOKEN; behind MOST_PROGRAM bytes none begins. */
        private void step() {
            int limit = Math.min(size, MOST_PROGRAM);
            at = behind;
            while (at < limit && (bytes[at] == BLANK || bytes[at] == LINE_END)) {
                at++;
            }
            if (at >= limit) {
                at = limit;
                token = END_OF_TEXT;
                return;
            }
            behind = at;
            while (behind < size && (isLetter(bytes[behind]) || isDigit(bytes[behind]))) {
                behind++;
            }
            if (behind > at) {
                token = isDigit(bytes[at]) ? numberCode() : wordCode();
                return;
            }
            int mark = MARKS.indexOf((char) bytes[at]);
            token = mark < 0 ? NO_TOKEN : SEMICOLON + mark;
            behind = at + 1;
        }

        private int numberCode() {
            if (behind - at > MOST_DIGITS) {
                return NO_TOKEN;
            }
            int number = 0;
            for (int i = at; i < behind; i++) {
                if (!isDigit(bytes[i])) {
                    return NO_TOKEN;
                }
                number = number * 10 + bytes[i] - '0';
            }
            return number;
        }

        private int wordCode() {
            if (behind - at > MOST_LETTERS) {
                return NO_TOKEN;
            }
            int code = LEFT;
            for (int slot = 0; slot + WORD_SLOT <= WORDS.length(); slot += WORD_SLOT) {
                if (isWordAt(slot)) {
                    return code;
                }
                code++;
            }
            return NO_TOKEN;
        }

        private boolean isWordAt(int slot) {
            for (int i = 0; i < MOST_LETTERS; i++) {
                int b = at + i < behind ? bytes[at + i] : BLANK;
                if (WORDS.charAt(slot + i) != b) {
                    return false;
                }
            }
            return true;
        }
    }

    /** What the towers are at the end of a TICK. */
    private static final class Line {
        final int[] sign;
        final int[] time;
        final int[] cell;
        final int[] book;
        int towers;
        int wrote;
        int sent;
        int wrongAt;

        /** A bookRoom of 0 keeps no BOOK: how long it is and whether it is right is kept anyway. */
        Line(int room, int bookRoom) {
            sign = new int[room];
            time = new int[room];
            cell = new int[room * CELLS];
            book = new int[bookRoom];
            wrongAt = NONE;
        }

        void begin(int n) {
            towers = Math.min(n, sign.length);
            Arrays.fill(sign, 0);
            Arrays.fill(time, 0);
            Arrays.fill(cell, 0);
            wrote = 0;
            sent = 0;
            wrongAt = NONE;
        }

        /** Is as another line with room for as many towers; the BOOK's SIGNS are not taken over. */
        void takeOver(Line other) {
            towers = Math.min(other.towers, sign.length);
            System.arraycopy(other.sign, 0, sign, 0, towers);
            System.arraycopy(other.time, 0, time, 0, towers);
            System.arraycopy(other.cell, 0, cell, 0, towers * CELLS);
            wrote = other.wrote;
            sent = other.sent;
            wrongAt = other.wrongAt;
        }

        void put(int value, boolean right) {
            if (wrote >= MOST_BOOK) {
                return;
            }
            if (wrote < book.length) {
                book[wrote] = value;
            }
            if (!right && wrongAt == NONE) {
                wrongAt = wrote;
            }
            wrote++;
        }
    }

    /** The towers' PROGRAMS, the MESSAGE and the FOG, by which a line goes from TICK to TICK. */
    private static final class Crew {
        final Program[] programs = new Program[KINDS];
        final int[] message = new int[MOST_MESSAGE];
        final int[] fogBits = new int[MOST_TICKS + 1];
        private final int[] ahead = new int[MOST_TOWERS];
        private final int[] worth = new int[VALUES];
        int towers;
        int messageSigns;
        int fogs;

        Crew() {
            for (int i = 0; i < KINDS; i++) {
                programs[i] = new Program();
            }
            for (int i = 0; i < NUMBERS; i++) {
                worth[i] = i;
            }
            worth[BLIND] = -1;
            towers = TOWERS_AT_FIRST;
        }

        boolean takeMessage(Tape tape) {
            if (tape.size > MOST_MESSAGE) {
                return false;
            }
            for (int i = 0; i < tape.size; i++) {
                if (tape.bytes[i] < 1 || tape.bytes[i] >= SIGNS) {
                    return false;
                }
            }
            System.arraycopy(tape.bytes, 0, message, 0, tape.size);
            messageSigns = tape.size;
            return true;
        }

        int addFog(int gap, int from, int to) {
            for (int tick = from; tick <= to && tick <= MOST_TICKS; tick++) {
                fogBits[tick] |= 1 << gap;
            }
            fogs++;
            return fogs - 1;
        }

        int outcome(Line line) {
            if (line.wrongAt != NONE) {
                return WRONG;
            }
            return line.wrote < messageSigns ? SHORT : WHOLE;
        }

        /** Brings a line to the end of this TICK: whether anything but TIME changed. */
        boolean move(Line line, int tick, int moreFog) {
            int fog = (tick >= 0 && tick <= MOST_TICKS ? fogBits[tick] : 0) | moreFog;
            int sent = line.sent;
            int wrote = line.wrote;
            boolean changed = false;
            System.arraycopy(line.sign, 0, ahead, 0, line.towers);
            for (int tower = 0; tower < line.towers; tower++) {
                see(line, tower, fog);
                Program program = programs[kindOf(line, tower)];
                int rule = program.firstRuleThatHolds(worth);
                if (rule != NONE) {
                    act(line, tower, program, rule);
                    changed |= keep(line, tower);
                }
                boolean same = line.sign[tower] == ahead[tower];
                line.time[tower] = same ? Math.min(line.time[tower] + 1, MOST_TIME) : 0;
            }
            return changed || line.sent != sent || line.wrote != wrote;
        }

        /** Whether two lines go on alike as far as the BOOK is asked for. */
        boolean alike(Line one, Line other) {
            if (one.sent != other.sent || one.wrote != other.wrote || one.wrongAt != other.wrongAt) {
                return false;
            }
            int n = Math.min(one.towers, other.towers);
            for (int i = 0; i < n; i++) {
                if (one.sign[i] != other.sign[i]) {
                    return false;
                }
                // TIME that no RULE asks for moves nothing
                if (one.time[i] != other.time[i] && programs[kindOf(one, i)].asksTime) {
                    return false;
                }
            }
            for (int i = 0; i < n * CELLS; i++) {
                if (one.cell[i] != other.cell[i]) {
                    return false;
                }
            }
            return true;
        }

        private static int kindOf(Line line, int tower) {
            if (tower == 0) {
                return KIND_FIRST;
            }
            return tower == line.towers - 1 ? KIND_LAST : KIND_OTHER;
        }

        private void see(Line line, int tower, int fog) {
            boolean seesLeft = tower > 0 && (fog >> (tower - 1) & 1) == 0;
            boolean seesRight = tower < line.towers - 1 && (fog >> tower & 1) == 0;
            worth[LEFT] = seesLeft ? ahead[tower - 1] : -1;
            worth[RIGHT] = seesRight ? ahead[tower + 1] : -1;
            worth[OWN] = ahead[tower];
            worth[TIME] = line.time[tower];
            worth[WORD] = tower == 0 ? wordOf(line) : -1;
            System.arraycopy(line.cell, tower * CELLS, worth, CELL_A, CELLS);
        }

        private int wordOf(Line line) {
            return line.sent < messageSigns ? message[line.sent] : -1;
        }

        private void act(Line line, int tower, Program program, int rule) {
            for (int i = program.firstAct(rule); i < program.actsEnd[rule]; i++) {
                int kind = program.act[i];
                int sum = worth[program.sumFirst[i]] + worth[program.sumSecond[i]];
                int value = Math.floorMod(sum, SIGNS);
                if (kind == SHOW) {
                    worth[OWN] = value;
                } else if (kind >= CELL_A && kind <= CELL_D) {
                    worth[kind] = value;
                } else if (kind == WRITE && tower == line.towers - 1) {
                    boolean right = line.wrote < messageSigns && message[line.wrote] == value;
                    line.put(value, right);
                } else if (kind == SENT && tower == 0 && line.sent < messageSigns) {
                    line.sent++;
                    worth[WORD] = wordOf(line);
                }
            }
        }

        /** Keeps a tower's SIGN and CELLS as they came out: whether one is another than ahead. */
        private boolean keep(Line line, int tower) {
            boolean changed = worth[OWN] != ahead[tower];
            line.sign[tower] = worth[OWN];
            for (int c = 0; c < CELLS; c++) {
                changed |= worth[CELL_A + c] != line.cell[tower * CELLS + c];
            }
            System.arraycopy(worth, CELL_A, line.cell, tower * CELLS, CELLS);
            return changed;
        }
    }

    /** What came of the latest play. */
    private static final class Play {
        final Line line = new Line(MOST_TOWERS, MOST_BOOK);
        final int[] signs = new int[(MOST_TICKS + 1) * MOST_TOWERS];
        int ticks = NONE;
        int still;
        int outcome;

        boolean hasTower(int tower) {
            return ticks != NONE && tower >= 0 && tower < line.towers;
        }

        void run(Crew crew, int most) {
            ticks = most;
            still = 0;
            line.begin(crew.towers);
            for (int tick = 0; tick <= most && tick <= MOST_TICKS; tick++) {
                if (tick > 0 && crew.move(line, tick, 0)) {
                    still = tick;
                }
                System.arraycopy(line.sign, 0, signs, tick * MOST_TOWERS, line.towers);
            }
            outcome = crew.outcome(line);
        }
    }

    /** Seeks the fewest single FOGS with which the MESSAGE does not come through whole. */
    private static final class Breaker {
        // The line behind each TICK: with the told FOG alone, and with one single FOG more.
        private final Line[] calm = new Line[BREAK_TICKS + 1];
        private final Line[] once = new Line[BREAK_WIDE + 1];
        private final Line tried = new Line(BREAK_TOWERS, 0);
        private final int[] singleTick = new int[BREAK_WIDE * (BREAK_TOWERS - 1)];
        private final int[] singleGap = new int[BREAK_WIDE * (BREAK_TOWERS - 1)];
        private int singles;
        private int ticks;
        private int wide;
        final int[] foundTick = new int[BREAK_FOGS];
        final int[] foundGap = new int[BREAK_FOGS];
        int found = NONE;

        Breaker() {
            for (int i = 0; i < calm.length; i++) {
                calm[i] = new Line(BREAK_TOWERS, 0);
            }
            for (int i = 0; i < once.length; i++) {
                once[i] = new Line(BREAK_TOWERS, 0);
            }
        }

        int search(Crew crew, int mostTicks, int mostWide) {
            ticks = Math.min(mostTicks, BREAK_TICKS);
            wide = Math.min(Math.min(mostWide, BREAK_WIDE), ticks);
            listSingles(crew.towers - 1);
            playCalm(crew);
            if (crew.outcome(calm[ticks]) != WHOLE) {
                found = 0;
                return 0;
            }
            if (oneDoes(crew)) {
                return 1;
            }
            return twoDo(crew) ? 2 : NONE;
        }

        private void listSingles(int gaps) {
            singles = 0;
            for (int tick = 1; tick <= wide; tick++) {
                for (int gap = 0; gap < gaps && singles < singleTick.length; gap++) {
                    singleTick[singles] = tick;
                    singleGap[singles] = gap;
                    singles++;
                }
            }
        }

        private void playCalm(Crew crew) {
            calm[0].begin(crew.towers);
            for (int tick = 1; tick <= ticks; tick++) {
                calm[tick].takeOver(calm[tick - 1]);
                crew.move(calm[tick], tick, 0);
            }
        }

        private boolean oneDoes(Crew crew) {
            for (int i = 0; i < singles; i++) {
                int tick = singleTick[i];
                tried.takeOver(calm[tick - 1]);
                crew.move(tried, tick, 1 << singleGap[i]);
                if (breaks(crew, tick)) {
                    tell(0, i);
                    found = 1;
                    return true;
                }
            }
            return false;
        }

        /** Only asked when no single FOG does: then a pair one of which changes nothing fails too. */
        private boolean twoDo(Crew crew) {
            for (int i = 0; i < singles; i++) {
                playOnce(crew, i);
                for (int j = i + 1; j < singles; j++) {
                    if (bothMatter(crew, i, j) && breaks(crew, singleTick[j])) {
                        tell(0, i);
                        tell(1, j);
                        found = 2;
                        return true;
                    }
                }
            }
            return false;
        }

        private void playOnce(Crew crew, int i) {
            int first = singleTick[i];
            for (int tick = first; tick <= wide; tick++) {
                once[tick].takeOver(tick == first ? calm[tick - 1] : once[tick - 1]);
                crew.move(once[tick], tick, tick == first ? 1 << singleGap[i] : 0);
            }
        }

        /** Tries two up to the later one's TICK: whether the line is then as neither alone makes it. */
        private boolean bothMatter(Crew crew, int i, int j) {
            int tick = singleTick[j];
            int fog = 1 << singleGap[j];
            if (tick == singleTick[i]) {
                tried.takeOver(calm[tick - 1]);
                fog |= 1 << singleGap[i];
            } else if (crew.alike(once[tick - 1], calm[tick - 1])) {
                return false;
            } else {
                tried.takeOver(once[tick - 1]);
            }
            crew.move(tried, tick, fog);
            return !crew.alike(tried, once[tick]);
        }

        /** Whether the tried line, as it is behind this TICK, ends otherwise than whole. */
        private boolean breaks(Crew crew, int from) {
            for (int tick = from; tick < ticks; tick++) {
                if (tried.wrongAt != NONE) {
                    return true;
                }
                if (crew.alike(tried, calm[tick])) {
                    return false;
                }
                crew.move(tried, tick + 1, 0);
            }
            return crew.outcome(tried) != WHOLE;
        }

        private void tell(int k, int i) {
            foundTick[k] = singleTick[i];
            foundGap[k] = singleGap[i];
        }
    }

    /** The ENTRIES of the book. */
    private static final class Entries {
        private final int[] bytes = new int[MOST_ENTRIES * MOST_ENTRY];
        final int[] length = new int[MOST_ENTRIES];
        final int[] words = new int[MOST_ENTRIES];
        int known;

        int all() {
            return (1 << known) - 1;
        }

        boolean has(Tape tape) {
            for (int e = 0; e < known; e++) {
                if (length[e] == tape.size && isAt(e, tape.bytes, 0, tape.size)) {
                    return true;
                }
            }
            return false;
        }

        int add(Tape tape) {
            if (known >= MOST_ENTRIES || tape.size > MOST_ENTRY) {
                return NONE;
            }
            words[known] = 1;
            for (int i = 0; i < tape.size; i++) {
                bytes[known * MOST_ENTRY + i] = tape.bytes[i];
                if (tape.bytes[i] == BLANK) {
                    words[known]++;
                }
            }
            length[known] = tape.size;
            known++;
            return known - 1;
        }

        /** The ENTRIES, as bits, that stand at a place where a WORD begins and end as a WORD does. */
        int fittingAt(int[] text, int place, int size) {
            int set = 0;
            for (int e = 0; e < known; e++) {
                int behind = place + length[e];
                if (isAt(e, text, place, size) && (behind >= size || !isLetter(text[behind]))) {
                    set |= 1 << e;
                }
            }
            return set;
        }

        private boolean isAt(int e, int[] text, int place, int size) {
            if (place + length[e] > size) {
                return false;
            }
            for (int i = 0; i < length[e]; i++) {
                if (bytes[e * MOST_ENTRY + i] != text[place + i]) {
                    return false;
                }
            }
            return true;
        }
    }

    /**
     * TEXTS one behind the other, WORD by WORD. As an ENTRY begins and ends with WORDS, only they
     * need be weighed: an ENTRY in place of its bytes saves its length less ENTRY_SIGNS.
     */
    private static final class Pages {
        // no ENTRY has this byte: none reaches from one TEXT into the next
        private static final int BETWEEN = 0;

        private final int[] text;
        private final int[] wordAt;
        private final int[] fitting;
        private final int[] saved;
        private int size;
        private int words;
        int texts;
        int bytes;

        Pages(int mostTexts) {
            text = new int[mostTexts * (MOST_TEXT + 1)];
            wordAt = new int[mostTexts * MOST_TEXT / 2 + 1];
            fitting = new int[wordAt.length];
            saved = new int[wordAt.length];
        }

        void clear() {
            size = 0;
            words = 0;
            texts = 0;
            bytes = 0;
        }

        void add(Tape tape) {
            if (size + tape.size + 1 > text.length) {
                return;
            }
            System.arraycopy(tape.bytes, 0, text, size, tape.size);
            size += tape.size;
            text[size] = BETWEEN;
            size++;
            bytes += tape.size;
            texts++;
        }

        /** Finds the WORDS, and which ENTRIES fit at each. */
        void mark(Entries entries) {
            words = 0;
            for (int i = 0; i < size && words < wordAt.length - 1; i++) {
                if (isLetter(text[i]) && (i == 0 || !isLetter(text[i - 1]))) {
                    wordAt[words] = i;
                    fitting[words] = entries.fittingAt(text, i, size);
                    words++;
                }
            }
        }

        /** The most SIGNS that a set of ENTRIES saves in all marked TEXTS together. */
        int saving(Entries entries, int set) {
            saved[words] = 0;
            for (int w = words - 1; w >= 0; w--) {
                saved[w] = saved[w + 1];
                int fits = fitting[w] & set;
                for (int e = 0; e < entries.known && fits >> e != 0; e++) {
                    if ((fits >> e & 1) != 0) {
                        saved[w] = Math.max(saved[w], savingBy(entries, e, w));
                    }
                }
            }
            return saved[0];
        }

        private int savingBy(Entries entries, int e, int w) {
            int behind = Math.min(w + entries.words[e], words);
            return entries.length[e] - ENTRY_SIGNS + saved[behind];
        }

        /** The least set of at most n ENTRIES that saves the most. */
        int bestSet(Entries entries, int n) {
            int useful = usefulSet(entries);
            int best = 0;
            int most = 0;
            for (int set = 1; set <= useful; set++) {
                if ((set & ~useful) == 0 && Integer.bitCount(set) <= n) {
                    int saves = saving(entries, set);
                    if (saves > most) {
                        most = saves;
                        best = set;
                    }
                }
            }
            return best;
        }

        /** The ENTRIES that can save at all: a least set has no others. */
        private int usefulSet(Entries entries) {
            int set = 0;
            for (int w = 0; w < words; w++) {
                set |= fitting[w];
            }
            for (int e = 0; e < entries.known; e++) {
                if (entries.length[e] <= ENTRY_SIGNS) {
                    set &= ~(1 << e);
                }
            }
            return set;
        }

        /** Cuts one TEXT into pieces by what saving() found for all ENTRIES: how many there are. */
        int cut(Entries entries, int[] pieces) {
            int pieceCount = 0;
            int w = 0;
            int i = 0;
            while (i < bytes && pieceCount < pieces.length) {
                int e = NONE;
                if (w < words && wordAt[w] == i) {
                    e = entryToTake(entries, w);
                    w += e == NONE ? 1 : entries.words[e];
                }
                pieces[pieceCount] = e == NONE ? text[i] : ENTRY_PIECE + e;
                pieceCount++;
                i += e == NONE ? 1 : entries.length[e];
            }
            return pieceCount;
        }

        private int entryToTake(Entries entries, int w) {
            for (int e = 0; e < entries.known; e++) {
                if ((fitting[w] >> e & 1) != 0 && savingBy(entries, e, w) == saved[w]) {
                    return e;
                }
            }
            return NONE;
        }
    }

    /** The NOTES, and what they leave of the DELAYS. */
    private static final class Delays {
        private final int[] from = new int[MOST_NOTES];
        private final int[] to = new int[MOST_NOTES];
        private final int[] minutes = new int[MOST_NOTES];
        private final int[] day = new int[MOST_NOTES];
        // most[i][j]: the most minutes that a sign comes to tower j after it came to tower i;
        // behind the last tower stands the line's end as one more.
        private final int[][] most = new int[MOST_TOWERS + 1][MOST_TOWERS + 1];
        private int ends;
        private int weighed = NONE;
        private boolean quarrel;
        int notes;

        int add(int first, int last, int together, int today) {
            if (notes >= MOST_NOTES) {
                return NONE;
            }
            from[notes] = first;
            to[notes] = last;
            minutes[notes] = together;
            day[notes] = today;
            notes++;
            return notes - 1;
        }

        int least(int tower) {
            return -most[tower + 1][tower];
        }

        int greatest(int tower) {
            return most[tower][tower + 1];
        }

        int spread(int tower) {
            return greatest(tower) - least(tower);
        }

        /** Weighs the NOTES as of day t, unless the latest call did: whether any DELAYS fit. */
        boolean fit(int towers, int t) {
            int told = toldBy(t);
            if (told != weighed || ends != towers + 1) {
                weigh(towers, told);
            }
            return !quarrel;
        }

        private int toldBy(int t) {
            int told = 0;
            // TODAY never goes back: the NOTES stand in the order of their days
            while (told < notes && day[told] <= t) {
                told++;
            }
            return told;
        }

        private void weigh(int towers, int told) {
            ends = Math.min(towers, MOST_TOWERS) + 1;
            weighed = told;
            quarrel = false;
            for (int i = 0; i < ends; i++) {
                for (int j = 0; j < ends; j++) {
                    most[i][j] = (j - i) * (j > i ? MOST_DELAY : LEAST_DELAY);
                }
            }
            for (int k = 0; k < told && !quarrel; k++) {
                int end = to[k] + 1;
                quarrel = !tighten(from[k], end, minutes[k]) || !tighten(end, from[k], -minutes[k]);
            }
        }

        /** Lets at most so many minutes be between two ends: false, if that can't be. */
        private boolean tighten(int a, int b, int between) {
            if (between >= most[a][b]) {
                return true;
            }
            if (between + most[b][a] < 0) {
                return false;
            }
            for (int i = 0; i < ends; i++) {
                for (int j = 0; j < ends; j++) {
                    most[i][j] = Math.min(most[i][j], most[i][a] + between + most[b][j]);
                }
            }
            return true;
        }
    }

    /** What sees what on the hills, day by day. */
    private static final class HillDays {
        private final int[] seen = new int[MOST_DAYS * MOST_HILLS];
        private int count;
        private int days;

        boolean take(Tape tape, int n) {
            if (n < LEAST_HILLS || n > MOST_HILLS) {
                return false;
            }
            int dayBytes = 2 * n;
            int wholeDays = tape.size / dayBytes;
            if (wholeDays < 1 || wholeDays > MOST_DAYS || wholeDays * dayBytes != tape.size) {
                return false;
            }
            count = n;
            days = wholeDays;
            for (int i = 0; i < days * n; i++) {
                seen[i] = tape.bytes[2 * i] << 8 | tape.bytes[2 * i + 1];
            }
            return true;
        }

        /** The least of the smallest sets that do, as bits; 0 if none does. */
        int fewest() {
            int ends = 1 | 1 << (count - 1);
            int best = 0;
            int fewest = count + 1;
            for (int set = ends; set < 1 << count; set += 2) {
                if (Integer.bitCount(set) < fewest && doesEachDay(set)) {
                    best = set;
                    fewest = Integer.bitCount(set);
                }
            }
            return best;
        }

        private boolean doesEachDay(int set) {
            for (int day = 0; day < days; day++) {
                if (!comesThrough(set, day)) {
                    return false;
                }
            }
            return true;
        }

        private boolean comesThrough(int set, int day) {
            int reached = 1;
            // from the first hill on: what is reached behind a hill is never gone on from
            for (int hill = 0; hill < count - 1; hill++) {
                if ((reached >> hill & 1) != 0) {
                    reached |= seen[day * count + hill] & set;
                }
            }
            return (reached >> (count - 1) & 1) != 0;
        }
    }
}
