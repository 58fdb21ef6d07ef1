import java.util.ArrayList;
import java.util.Arrays;
import java.util.HashMap;
import java.util.List;
import java.util.Map;
import java.util.NoSuchElementException;

/** The document once more, slow and by other ways than HillArms: what random runs are held against. */
final class Oracle {
    private static final List<String> VALUE_WORDS =
            List.of("left", "right", "own", "time", "word", "blind", "a", "b", "c", "d");
    private static final List<String> CELL_WORDS = List.of("a", "b", "c", "d");

    private record One(String left, String mark, String right) { }

    private record Act(String kind, String first, String second) { }

    private record Rule(List<One> ones, List<Act> acts) { }

    private record Token(String text, int at) { }

    private record Fog(int gap, int from, int to) { }

    private record Note(int from, int to, int minutes, int day) { }

    private static final class Fault extends RuntimeException {
        private static final long serialVersionUID = 1L;
        final int kind;
        final int at;

        Fault(int kind, int at) {
            this.kind = kind;
            this.at = at;
        }
    }

    private static final class Played {
        final List<int[]> shown = new ArrayList<>();
        final List<Integer> book = new ArrayList<>();
        int[][] cells;
        int[] time;
        int still;
        int sent;
        int how;
        int wrong = -1;
    }

    private List<Integer> tape = new ArrayList<>();
    private int today;
    private int towers = 8;
    private final List<List<Rule>> programs =
            new ArrayList<>(List.of(List.of(), List.of(), List.of()));
    private int latestFault;
    private List<Integer> message = List.of();
    private final List<Fog> fogs = new ArrayList<>();
    private Played latest;
    private List<int[]> breaking = List.of();
    private final List<String> entries = new ArrayList<>();
    private List<Integer> pieces = List.of();
    private final List<String> texts = new ArrayList<>();
    private int latestSmall = -1;
    private final List<Note> notes = new ArrayList<>();
    private int latestHills;

    int feed(int... numbers) {
        if (tape.size() > 420) {
            return -1;
        }
        for (int number : numbers) {
            for (byte b : java.nio.ByteBuffer.allocate(4).putInt(number).array()) {
                tape.add(b & 255);
            }
        }
        return tape.size();
    }

    boolean end(int n) {
        if (n < 0 || n > tape.size()) {
            return false;
        }
        tape = new ArrayList<>(tape.subList(0, n));
        return true;
    }

    int next(int n) {
        if (n < 0 || n > 999 || today + n > 999) {
            return -1;
        }
        return today += n;
    }

    boolean towers(int n) {
        if (n < 3 || n > 16 || !fogs.isEmpty() || !notes.isEmpty()) {
            return false;
        }
        towers = n;
        return true;
    }

    private String takeTape() {
        StringBuilder text = new StringBuilder();
        for (int b : tape) {
            text.append((char) b);
        }
        tape.clear();
        return text.toString();
    }

    // ---- programs: all TOKENS are cut first, then each RULE is read from the list

    int program(int kind) {
        String text = takeTape();
        if (kind < 0 || kind > 2) {
            return -1000;
        }
        try {
            List<Rule> rules = rulesOf(tokensOf(text));
            latestFault = 0;
            programs.set(kind, rules);
            return rules.size();
        } catch (Fault fault) {
            latestFault = fault.kind;
            return -1 - fault.at;
        }
    }

    int fault() {
        return latestFault;
    }

    /** The last one is the end, an empty text; one that is no TOKEN has the text "?". */
    private static List<Token> tokensOf(String text) {
        List<Token> tokens = new ArrayList<>();
        java.util.regex.Matcher m = java.util.regex.Pattern
                .compile("[ \\n]*(?:([a-z0-9]+)|([^ \\na-z0-9]))", java.util.regex.Pattern.DOTALL)
                .matcher(text);
        int at = 0;
        while (m.find(at) && m.start() == at) {
            String run = m.group(1);
            String mark = m.group(2);
            int start = run != null ? m.start(1) : m.start(2);
            if (start >= 400) {
                break;
            }
            boolean good = run != null ? run.matches("[a-z]{1,5}|[0-9]{1,2}")
                    : ";,+<=>#".contains(mark);
            tokens.add(new Token(!good ? "?" : run != null ? run : mark, start));
            at = m.end();
        }
        boolean tooLong = text.length() > 400;
        tokens.add(new Token(tooLong ? "too long" : "", Math.min(400, text.length())));
        return tokens;
    }

    private static List<Rule> rulesOf(List<Token> tokens) {
        List<Rule> rules = new ArrayList<>();
        int[] at = {0};
        int[] left = {40, 40};
        while (!tokens.get(at[0]).text.isEmpty()) {
            need(tokens, at[0], "when");
            if (rules.size() == 20) {
                throw new Fault(2, tokens.get(at[0]).at);
            }
            rules.add(ruleOf(tokens, at, left));
        }
        return rules;
    }

    private static Rule ruleOf(List<Token> tokens, int[] at, int[] left) {
        List<One> ones = new ArrayList<>();
        do {
            at[0]++;
            String first = valueAt(tokens, at[0]);
            if (left[0]-- == 0) {
                throw new Fault(2, tokens.get(at[0]).at);
            }
            need(tokens, at[0] + 1, "<", "=", ">", "#");
            ones.add(new One(first, tokens.get(at[0] + 1).text, valueAt(tokens, at[0] + 2)));
            at[0] += 3;
        } while (tokens.get(at[0]).text.equals("and"));
        need(tokens, at[0], "do");
        List<Act> acts = new ArrayList<>();
        do {
            at[0]++;
            need(tokens, at[0], "show", "write", "sent", "a", "b", "c", "d");
            if (left[1]-- == 0) {
                throw new Fault(2, tokens.get(at[0]).at);
            }
            acts.add(actOf(tokens, at));
        } while (tokens.get(at[0]).text.equals(","));
        need(tokens, at[0], ";");
        at[0]++;
        return new Rule(ones, acts);
    }

    private static Act actOf(List<Token> tokens, int[] at) {
        String kind = tokens.get(at[0]++).text;
        if (kind.equals("sent")) {
            return new Act(kind, "0", "0");
        }
        if (CELL_WORDS.contains(kind)) {
            need(tokens, at[0]++, "is");
        }
        String first = valueAt(tokens, at[0]++);
        String second = "0";
        if (tokens.get(at[0]).text.equals("+")) {
            at[0]++;
            second = valueAt(tokens, at[0]++);
        }
        return new Act(kind, first, second);
    }

    private static void need(List<Token> tokens, int at, String... words) {
        if (!Arrays.asList(words).contains(tokens.get(at).text)) {
            throw new Fault(1, tokens.get(at).at);
        }
    }

    private static String valueAt(List<Token> tokens, int at) {
        String text = tokens.get(at).text;
        if (!VALUE_WORDS.contains(text) && !text.matches("[0-9]+")) {
            throw new Fault(1, tokens.get(at).at);
        }
        return text;
    }

    // ---- plays: each tower's state is a map of names

    boolean message() {
        List<Integer> bytes = new ArrayList<>(tape);
        tape.clear();
        if (bytes.size() > 60 || bytes.stream().anyMatch(b -> b < 1 || b > 63)) {
            return false;
        }
        message = bytes;
        return true;
    }

    int fog(int g, int from, int to) {
        if (fogs.size() == 60 || g < 0 || g > towers - 2 || from < 1 || to > 500 || from > to) {
            return -1;
        }
        fogs.add(new Fog(g, from, to));
        return fogs.size() - 1;
    }

    int play(int ticks) {
        if (ticks < 0 || ticks > 500) {
            return -1;
        }
        latest = playWith(ticks, List.of());
        return latest.book.size();
    }

    private boolean foggy(int gap, int tick, List<int[]> more) {
        return fogs.stream().anyMatch(f -> f.gap == gap && f.from <= tick && tick <= f.to)
                || more.stream().anyMatch(f -> f[0] == tick && f[1] == gap);
    }

    private Played playWith(int ticks, List<int[]> more) {
        Played p = new Played();
        p.cells = new int[towers][4];
        p.time = new int[towers];
        p.shown.add(new int[towers]);
        for (int tick = 1; tick <= ticks; tick++) {
            int[] before = p.shown.get(tick - 1);
            int[] after = before.clone();
            String stateBefore = stateOf(p, before);
            for (int i = 0; i < towers; i++) {
                boolean left = i > 0 && !foggy(i - 1, tick, more);
                boolean right = i < towers - 1 && !foggy(i, tick, more);
                after[i] = towerActs(p, i, left ? before[i - 1] : -1, right ? before[i + 1] : -1,
                        before[i]);
                p.time[i] = after[i] != before[i] ? 0 : Math.min(99, p.time[i] + 1);
            }
            p.shown.add(after);
            if (!stateBefore.equals(stateOf(p, after))) {
                p.still = tick;
            }
        }
        judge(p);
        return p;
    }

    private static String stateOf(Played p, int[] signs) {
        return Arrays.toString(signs) + Arrays.deepToString(p.cells) + p.book + p.sent;
    }

    private int towerActs(Played p, int i, int left, int right, int own) {
        Map<String, Integer> now = new HashMap<>();
        now.put("left", left);
        now.put("right", right);
        now.put("own", own);
        now.put("time", p.time[i]);
        now.put("blind", -1);
        for (int c = 0; c < 4; c++) {
            now.put(CELL_WORDS.get(c), p.cells[i][c]);
        }
        now.put("word", i == 0 && p.sent < message.size() ? message.get(p.sent) : -1);
        for (Rule rule : programs.get(i == 0 ? 0 : i == towers - 1 ? 1 : 2)) {
            if (rule.ones.stream().allMatch(one -> holds(one, now))) {
                rule.acts.forEach(act -> perform(act, now, p, i));
                break;
            }
        }
        for (int c = 0; c < 4; c++) {
            p.cells[i][c] = now.get(CELL_WORDS.get(c));
        }
        return now.get("own");
    }

    private static int worth(String value, Map<String, Integer> now) {
        return now.containsKey(value) ? now.get(value) : Integer.parseInt(value);
    }

    private static boolean holds(One one, Map<String, Integer> now) {
        int order = Integer.compare(worth(one.left, now), worth(one.right, now));
        return one.mark.equals("<") && order < 0 || one.mark.equals("=") && order == 0
                || one.mark.equals(">") && order > 0 || one.mark.equals("#") && order != 0;
    }

    private void perform(Act act, Map<String, Integer> now, Played p, int i) {
        int sum = (worth(act.first, now) + worth(act.second, now) + 640) % 64;
        switch (act.kind) {
            case "show" -> now.put("own", sum);
            case "write" -> {
                if (i == towers - 1 && p.book.size() < 100) {
                    p.book.add(sum);
                }
            }
            case "sent" -> {
                if (i == 0 && p.sent < message.size()) {
                    p.sent++;
                    now.put("word", p.sent < message.size() ? message.get(p.sent) : -1);
                }
            }
            default -> now.put(act.kind, sum);
        }
    }

    private void judge(Played p) {
        int n = Math.min(p.book.size(), message.size());
        if (p.book.equals(message)) {
            p.how = 0;
        } else if (p.book.size() == n && p.book.equals(message.subList(0, n))) {
            p.how = 1;
        } else {
            p.how = 2;
            p.wrong = n;
            for (int i = n - 1; i >= 0; i--) {
                if (!p.book.get(i).equals(message.get(i))) {
                    p.wrong = i;
                }
            }
        }
    }

    int shown(int tower, int tick) {
        if (latest == null || tick < 0 || tick >= latest.shown.size() || noTower(tower)) {
            return -1;
        }
        return latest.shown.get(tick)[tower];
    }

    private boolean noTower(int tower) {
        return tower < 0 || tower >= latest.cells.length;
    }

    int cell(int tower, int c) {
        if (latest == null || noTower(tower) || c < 0 || c > 4) {
            return -1;
        }
        return c == 4 ? latest.time[tower] : latest.cells[tower][c];
    }

    int written(int k) {
        return latest == null || k < 0 || k >= latest.book.size() ? -1 : latest.book.get(k);
    }

    int played(int what) {
        if (latest == null || what < 0 || what > 3) {
            return -1;
        }
        return new int[] {latest.how, latest.wrong, latest.still, latest.sent}[what];
    }

    int broken(int ticks, int wide) {
        if (ticks < 0 || ticks > 60 || wide < 0 || wide > 10 || towers > 8) {
            return -2;
        }
        List<int[]> singles = new ArrayList<>();
        for (int tick = 1; tick <= wide; tick++) {
            for (int gap = 0; gap < towers - 1; gap++) {
                singles.add(new int[] {tick, gap});
            }
        }
        List<List<int[]>> tries = new ArrayList<>();
        tries.add(List.of());
        for (int[] one : singles) {
            tries.add(List.of(one));
        }
        for (int i = 0; i < singles.size(); i++) {
            for (int j = i + 1; j < singles.size(); j++) {
                tries.add(List.of(singles.get(i), singles.get(j)));
            }
        }
        for (List<int[]> more : tries) {
            if (playWith(ticks, more).how != 0) {
                breaking = more;
                return more.size();
            }
        }
        return -1;
    }

    int fogAt(int k, int what) {
        return k < 0 || k >= breaking.size() || what < 0 || what > 1 ? -1 : breaking.get(k)[what];
    }

    // ---- texts

    private static boolean isText(String text, int most) {
        return text.length() <= most && text.matches("[a-z]+( [a-z]+)*");
    }

    int entry() {
        String text = takeTape();
        if (entries.size() == 12 || !isText(text, 12) || entries.contains(text)) {
            return -1;
        }
        entries.add(text);
        return entries.size() - 1;
    }

    /** The pieces of a text from a place on that take the fewest SIGNS; -1 ahead of byte pieces. */
    private List<Integer> bestFrom(String text, int at, int set, Map<Integer, List<Integer>> known) {
        if (at == text.length()) {
            return List.of();
        }
        if (known.containsKey(at)) {
            return known.get(at);
        }
        List<Integer> best = null;
        for (int e = 0; e <= entries.size(); e++) {
            int length = 1;
            int piece = text.charAt(at);
            if (e < entries.size()) {
                length = entries.get(e).length();
                piece = 1000 + e;
                if ((set >> e & 1) == 0 || !stands(text, at, entries.get(e))) {
                    continue;
                }
            }
            List<Integer> tried = new ArrayList<>(List.of(piece));
            tried.addAll(bestFrom(text, at + length, set, known));
            if (best == null || signs(tried) < signs(best)) {
                best = tried;
            }
        }
        known.put(at, best);
        return best;
    }

    private static boolean stands(String text, int at, String entry) {
        return (" " + text + " ").startsWith(" " + entry + " ", at)
                && (at == 0 || text.charAt(at - 1) == ' ');
    }

    private static int signs(List<Integer> some) {
        return some.stream().mapToInt(piece -> piece >= 1000 ? 2 : 1).sum();
    }

    int code() {
        String text = takeTape();
        if (!isText(text, 60)) {
            return -1;
        }
        pieces = bestFrom(text, 0, 4095, new HashMap<>());
        return signs(pieces);
    }

    int piece(int k) {
        if (k < 0 || k >= pieces.size()) {
            return -1;
        }
        return pieces.get(k) >= 1000 ? pieces.get(k) - 900 : pieces.get(k);
    }

    int year() {
        String text = takeTape();
        if (!isText(text, 60) || texts.size() == 8) {
            return -1;
        }
        texts.add(text);
        return texts.size();
    }

    int small(int n) {
        if (n < 0 || n > 12) {
            return -1;
        }
        int best = Integer.MAX_VALUE;
        for (int set = 0; set < 1 << entries.size(); set++) {
            int all = 0;
            for (String text : texts) {
                all += signs(bestFrom(text, 0, set, new HashMap<>()));
            }
            if (Integer.bitCount(set) <= n && all < best) {
                best = all;
                latestSmall = set;
            }
        }
        return best;
    }

    int smallSet() {
        return latestSmall;
    }

    long right(int signs, int m, int r) {
        if (signs < 1 || signs > 60 || m < 1 || m > 16 || r < 2 || r > 2000) {
            throw new NoSuchElementException();
        }
        java.math.BigInteger x = java.math.BigInteger.TEN.pow(15);
        for (int k = 0; k < signs; k++) {
            for (int i = 0; i < m; i++) {
                x = x.multiply(java.math.BigInteger.valueOf(r - 1))
                        .divide(java.math.BigInteger.valueOf(r));
            }
        }
        return x.longValueExact();
    }

    // ---- delays: each DELAY of a tower is tried by walking all sums that can be reached

    int note(int from, int to, int minutes) {
        if (notes.size() == 60 || from < 0 || to < from || to >= towers || minutes < 1
                || minutes > 200) {
            return -1;
        }
        notes.add(new Note(from, to, minutes, today));
        return notes.size() - 1;
    }

    /** Bellman and Ford's way over the towers' ends: whether no chain of limits runs below 0. */
    private boolean fits(int t, int tower, int value) {
        List<int[]> limits = new ArrayList<>();
        for (int i = 0; i < towers; i++) {
            limits.add(new int[] {i, i + 1, i == tower ? value : 9});
            limits.add(new int[] {i + 1, i, i == tower ? -value : -1});
        }
        for (Note note : notes) {
            if (note.day <= t) {
                limits.add(new int[] {note.from, note.to + 1, note.minutes});
                limits.add(new int[] {note.to + 1, note.from, -note.minutes});
            }
        }
        int[] place = new int[towers + 1];
        boolean moved = true;
        for (int round = 0; round <= towers + 1 && moved; round++) {
            moved = false;
            for (int[] limit : limits) {
                if (place[limit[0]] + limit[2] < place[limit[1]]) {
                    place[limit[1]] = place[limit[0]] + limit[2];
                    moved = true;
                }
            }
        }
        return !moved;
    }

    int delay(int tower, int t, int what) {
        if (tower < 0 || tower >= towers || what < 0 || what > 1) {
            return -1;
        }
        int answer = -2;
        for (int value = 1; value <= 9; value++) {
            if (fits(t, tower, value) && (what == 1 || answer == -2)) {
                answer = value;
            }
        }
        return answer;
    }

    int look(int t) {
        int answer = -2;
        int widest = -1;
        for (int i = 0; i < towers; i++) {
            int least = delay(i, t, 0);
            int wide = delay(i, t, 1) - least;
            if (least != -2 && wide > widest) {
                widest = wide;
                answer = i;
            }
        }
        return answer;
    }

    // ---- hills

    int hills(int n) {
        List<Integer> bytes = new ArrayList<>(tape);
        tape.clear();
        if (n < 3 || n > 14 || bytes.isEmpty() || bytes.size() % (2 * n) != 0
                || bytes.size() / (2 * n) > 8) {
            return -2;
        }
        for (int size = 2; size <= n; size++) {
            for (int set = 0; set < 1 << n; set++) {
                if (Integer.bitCount(set) == size && (set & 1) == 1 && set >> (n - 1) == 1
                        && eachDay(bytes, n, set)) {
                    latestHills = set;
                    return size;
                }
            }
        }
        return -1;
    }

    private static boolean eachDay(List<Integer> bytes, int n, int set) {
        for (int day = 0; day < bytes.size() / (2 * n); day++) {
            if (!comes(bytes.subList(day * 2 * n, (day + 1) * 2 * n), n, set, 0)) {
                return false;
            }
        }
        return true;
    }

    private static boolean comes(List<Integer> day, int n, int set, int hill) {
        if (hill == n - 1) {
            return true;
        }
        int sees = day.get(2 * hill) * 256 + day.get(2 * hill + 1);
        for (int to = hill + 1; to < n; to++) {
            if ((sees >> to & 1) == 1 && (set >> to & 1) == 1 && comes(day, n, set, to)) {
                return true;
            }
        }
        return false;
    }

    int hillSet() {
        return latestHills;
    }

    int count(int what) {
        int[] all = {today, towers, fogs.size(), entries.size(), notes.size(), message.size(),
            tape.size()};
        return what < 0 || what > 6 ? -1 : all[what];
    }
}
