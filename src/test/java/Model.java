import java.util.ArrayList;
import java.util.Arrays;
import java.util.HashMap;
import java.util.List;
import java.util.Map;
import java.util.TreeMap;
import java.util.function.Predicate;

/**
 * The document once more, written the other way round: with texts, maps and real exceptions,
 * the rules by recursive descent; RandomRunsTest sets ShoutedHour against it.
 */
public final class Model {
    static final class Tower {
        int kind, add, delay, miles;
        Integer held, came;

        Tower copy() {
            Tower t = new Tower();
            t.kind = kind;
            t.add = add;
            t.delay = delay;
            t.miles = miles;
            t.held = held;
            t.came = came;
            return t;
        }
    }

    record Facts(int day, int wind, int add, int delay, int miles, int number) {
        int of(String name) {
            return switch (name) {
                case "day" -> day;
                case "wind" -> wind;
                case "add" -> add;
                case "delay" -> delay;
                case "miles" -> miles;
                default -> number;
            };
        }
    }

    record Rule(String kind, Predicate<Facts> when, String deed, int n) {
    }

    record Held(int came, int held) {
        int off() {
            return held - came;
        }
    }

    static final class Kept {
        List<Tower> towers = new ArrayList<>();
        int[] wind = new int[7];
        int day = 0;
        int z = 1;
        List<Rule> rules = new ArrayList<>();
        List<int[]> reports = new ArrayList<>();

        Kept copy() {
            Kept c = new Kept();
            for (Tower t : towers) {
                c.towers.add(t.copy());
            }
            c.wind = wind.clone();
            c.day = day;
            c.z = z;
            c.rules = new ArrayList<>(rules);
            c.reports = new ArrayList<>(reports);
            return c;
        }
    }

    static final String[] KINDS = {"watchman", "plain", "proud", "drunk", "mender", "sleeper"};
    static final Map<String, String> PARENT = new HashMap<>();

    static {
        PARENT.put("plain", "watchman");
        PARENT.put("proud", "watchman");
        PARENT.put("mender", "watchman");
        PARENT.put("drunk", "proud");
        PARENT.put("sleeper", "mender");
    }

    Kept s = new Kept();
    Kept kept = null;
    String tape = "";
    List<int[]> rows = new ArrayList<>();
    Object[] sheets = new Object[4];
    Object[] shelves = new Object[4];
    List<Integer> trace = new ArrayList<>();

    static boolean isOrUnder(int kind, int above) {
        for (String k = KINDS[kind]; k != null; k = PARENT.get(k)) {
            if (k.equals(KINDS[above])) {
                return true;
            }
        }
        return false;
    }

    boolean none(int k) {
        return k < 0 || k >= s.towers.size();
    }

    static boolean out(int v, int low, int high) {
        return v < low || v > high;
    }

    // ---- the valley

    public int tower(int kind, int add, int delay, int miles) {
        if (out(kind, 1, 5) || out(add, 0, 99) || out(delay, 0, 9) || out(miles, 1, 20)) return -1;
        if (s.towers.size() == 9) return -2;
        Tower t = new Tower();
        t.kind = kind;
        t.add = add;
        t.delay = delay;
        t.miles = miles;
        s.towers.add(t);
        return s.towers.size() - 1;
    }

    public int towerOf(int k, int what) {
        if (none(k) || out(what, 0, 7)) return -1;
        Tower t = s.towers.get(k);
        Rule r = rule(k, s.day);
        return switch (what) {
            case 0 -> t.kind;
            case 1 -> t.add;
            case 2 -> t.delay;
            case 3 -> t.miles;
            case 4 -> adds(k, s.day);
            case 5 -> r != null && r.deed.equals("silent") ? 1 : 0;
            case 6 -> t.held == null ? -9 : t.held;
            default -> t.came == null ? -9 : t.came;
        };
    }

    public int change(int k, int what, int v) {
        if (none(k) || out(what, 1, 3)) return -1;
        if (what == 1 && out(v, 0, 99) || what == 2 && out(v, 0, 9) || what == 3 && out(v, 1, 20)) return -1;
        Tower t = s.towers.get(k);
        int was = what == 1 ? t.add : what == 2 ? t.delay : t.miles;
        if (what == 1) t.add = v;
        if (what == 2) t.delay = v;
        if (what == 3) t.miles = v;
        return was;
    }

    public int turn(int k, int kind) {
        if (none(k) || out(kind, 1, 5)) return -1;
        int was = s.towers.get(k).kind;
        s.towers.get(k).kind = kind;
        return was;
    }

    public int day(int v) {
        if (out(v, 0, 6)) return -1;
        int was = s.day;
        s.day = v;
        return was;
    }

    public int wind(int day, int v) {
        if (out(day, 0, 6) || out(v, -3, 3)) return -1;
        int was = s.wind[day] + 100;
        s.wind[day] = v;
        return was;
    }

    public int pace(boolean west) {
        return 4 + (west ? 1 : -1) * s.wind[s.day];
    }

    Rule rule(int k, int day) {
        Tower t = s.towers.get(k);
        Facts f = new Facts(day, s.wind[day] + 3, t.add, t.delay, t.miles, k);
        for (Rule r : s.rules) {
            if (isOrUnder(t.kind, Arrays.asList(KINDS).indexOf(r.kind)) && r.when.test(f)) return r;
        }
        return null;
    }

    int adds(int k, int day) {
        Tower t = s.towers.get(k);
        Rule r = rule(k, day);
        int a = t.add;
        if (r != null) {
            if (r.deed.equals("add")) a = r.n;
            if (r.deed.equals("more")) a += r.n;
            if (r.deed.equals("mile")) a = r.n * t.miles;
        }
        return switch (KINDS[t.kind]) {
            case "plain" -> a;
            case "proud" -> 2 * a;
            case "drunk" -> 2 * a + (day == 6 ? 10 : 0);
            default -> a + t.delay;
        };
    }

    boolean silent(int k, int day) {
        Rule r = rule(k, day);
        return r != null && r.deed.equals("silent");
    }

    // ---- the rules

    public int feed(long eight, int n) {
        if (out(n, 1, 8)) return -1;
        if (tape.length() + n > 200) return -2;
        for (int i = 0; i < n; i++) {
            tape += (char) (eight & 255);
            eight >>= 8;
        }
        return tape.length();
    }

    @SuppressWarnings("serial")
    static final class Fault extends RuntimeException {
        final int at;

        Fault(int at) {
            this.at = at;
        }
    }

    /** Recursive descent over tokens that were cut ahead. */
    static final class Parser {
        final List<String> tokens = new ArrayList<>();
        final List<Integer> places = new ArrayList<>();
        int p = 0;

        Parser(String text) {
            java.util.regex.Matcher m = java.util.regex.Pattern.compile("[a-z]+|[0-9]+|[^ ]", java.util.regex.Pattern.DOTALL).matcher(text);
            while (m.find()) {
                tokens.add(m.group());
                places.add(m.start());
            }
            tokens.add("END");
            places.add(text.length());
        }

        String peek() {
            return tokens.get(p);
        }

        Fault fault() {
            return new Fault(places.get(p));
        }

        boolean eat(String token) {
            if (!peek().equals(token)) return false;
            p++;
            return true;
        }

        void need(String token) {
            if (!eat(token)) throw fault();
        }

        List<Rule> text() {
            List<Rule> rules = new ArrayList<>();
            while (!peek().equals("END")) {
                if (rules.size() == 8) throw fault();
                if (!Arrays.asList(KINDS).contains(peek())) throw fault();
                String kind = tokens.get(p++);
                Predicate<Facts> when = f -> true;
                if (eat("if")) when = cond(0);
                String deed = peek();
                if (!List.of("add", "more", "mile", "silent").contains(deed)) throw fault();
                p++;
                int n = deed.equals("silent") ? 0 : number(deed.equals("mile") ? 9 : 99);
                need(";");
                rules.add(new Rule(kind, when, deed, n));
            }
            return rules;
        }

        int number(int most) {
            if (!peek().matches("[0-9]{1,4}") || Integer.parseInt(peek()) > most) throw fault();
            return Integer.parseInt(tokens.get(p++));
        }

        Predicate<Facts> cond(int depth) {
            Predicate<Facts> c = all(depth);
            while (eat("or")) {
                c = c.or(all(depth));
            }
            return c;
        }

        Predicate<Facts> all(int depth) {
            Predicate<Facts> c = one(depth);
            while (eat("and")) {
                c = c.and(one(depth));
            }
            return c;
        }

        Predicate<Facts> one(int depth) {
            if (eat("not")) return one(depth).negate();
            if (peek().equals("(")) {
                if (depth == 3) throw fault();
                p++;
                Predicate<Facts> c = cond(depth + 1);
                need(")");
                return c;
            }
            Operand left = value();
            String sign = peek();
            if (!sign.matches("[<=>]")) throw fault();
            p++;
            Operand right = value();
            return switch (sign) {
                case "<" -> f -> left.of(f) < right.of(f);
                case "=" -> f -> left.of(f) == right.of(f);
                default -> f -> left.of(f) > right.of(f);
            };
        }

        Operand value() {
            String v = peek();
            if (!v.matches("[0-9]{1,4}|day|wind|add|delay|miles|number")) throw fault();
            p++;
            return v.matches("[0-9]+") ? new Operand(null, Integer.parseInt(v)) : new Operand(v, 0);
        }
    }

    /** A fact by its name, or a number. */
    record Operand(String fact, int number) {
        int of(Facts f) {
            return fact == null ? number : f.of(fact);
        }
    }

    public int rules() {
        String text = tape;
        tape = "";
        try {
            s.rules = new Parser(text).text();
            return s.rules.size();
        } catch (Fault f) {
            return -100 - f.at;
        }
    }

    // ---- cries

    boolean badCry(int from, int t) {
        return none(from) || out(t, 0, 1439);
    }

    /** Whom it comes to, one way, as far as before a stop (that one not). */
    TreeMap<Integer, Held> oneWay(int from, int t, boolean west, int day, int stop) {
        TreeMap<Integer, Held> to = new TreeMap<>();
        to.put(from, new Held(t, t));
        int leaves = t;
        int hour = t;
        int step = west ? 1 : -1;
        for (int k = from + step; !none(k) && k != stop; k += step) {
            int miles = s.towers.get(west ? k : k + 1).miles;
            int came = leaves + miles * (4 + step * s.wind[day]);
            if (s.towers.get(k).kind == 5 && came < 360) break;
            hour += adds(k, day);
            to.put(k, new Held(came, hour));
            if (silent(k, day)) break;
            leaves = came + s.towers.get(k).delay;
        }
        return to;
    }

    TreeMap<Integer, Held> bothWays(int from, int t, int day) {
        TreeMap<Integer, Held> to = oneWay(from, t, true, day, -1);
        to.putAll(oneWay(from, t, false, day, -1));
        return to;
    }

    TreeMap<Integer, Held> bothWays(int from, int t) {
        return bothWays(from, t, s.day);
    }

    public int cry(int from, int t, boolean west) {
        if (badCry(from, t)) return -1;
        TreeMap<Integer, Held> to = oneWay(from, t, west, s.day, -1);
        to.forEach((k, h) -> {
            s.towers.get(k).held = h.held;
            s.towers.get(k).came = h.came;
        });
        return to.size();
    }

    public int shows(int k, int minute) {
        if (none(k) || out(minute, 0, 9999)) return -1;
        Tower t = s.towers.get(k);
        if (t.held == null) return -3;
        if (minute < t.came) return -4;
        return t.held + (minute - t.came);
    }

    int holding() {
        return (int) s.towers.stream().filter(t -> t.held != null).count();
    }

    public int hush() {
        int were = holding();
        for (Tower t : s.towers) {
            t.held = null;
            t.came = null;
        }
        return were;
    }

    public int comes(int from, int t, int k) {
        if (badCry(from, t) || none(k)) return -1;
        Held h = bothWays(from, t).get(k);
        return h == null ? -3 : h.came;
    }

    public int holds(int from, int t, int k) {
        if (badCry(from, t) || none(k)) return -1;
        Held h = bothWays(from, t).get(k);
        return h == null ? -3 : h.held;
    }

    public int off(int from, int t, int k) {
        if (badCry(from, t) || none(k)) return -1;
        Held h = bothWays(from, t).get(k);
        return h == null ? -3 : h.off() + 10000;
    }

    public int worst(int from, int t) {
        if (badCry(from, t)) return -1;
        TreeMap<Integer, Held> to = bothWays(from, t);
        int far = to.values().stream().mapToInt(h -> Math.abs(h.off())).max().getAsInt();
        return to.keySet().stream().filter(k -> Math.abs(to.get(k).off()) == far).findFirst().get();
    }

    public int within(int from, int t, int bound) {
        if (badCry(from, t) || out(bound, 0, 999)) return -1;
        return (int) bothWays(from, t).values().stream().filter(h -> Math.abs(h.off()) <= bound).count();
    }

    public int bestAdd(int k, int from, int t) {
        if (none(k) || badCry(from, t) || k == from) return -1;
        int was = s.towers.get(k).add;
        int best = -3;
        int least = Integer.MAX_VALUE;
        for (int add = 0; add < 100; add++) {
            s.towers.get(k).add = add;
            int far = -1;
            for (int day = 0; day < 7; day++) {
                Held h = bothWays(from, t, day).get(k);
                if (h != null) far = Math.max(far, Math.abs(h.off()));
            }
            if (far >= 0 && far < least) {
                least = far;
                best = add;
            }
        }
        s.towers.get(k).add = was;
        return best;
    }

    int clocksOf(int set, int t) {
        TreeMap<Integer, Held> to = new TreeMap<>();
        for (int k = 0; k < s.towers.size(); k++) {
            if ((set & 1 << k) == 0) continue;
            int stop = k + 1;
            while (stop < s.towers.size() && (set & 1 << stop) == 0) stop++;
            to.putAll(oneWay(k, t, true, s.day, stop));
        }
        if (to.size() < s.towers.size()) return -3;
        return to.values().stream().mapToInt(h -> Math.abs(h.off())).max().orElse(0);
    }

    public int clocks(int set, int t) {
        if (set < 0 || set >= 1 << s.towers.size() || out(t, 0, 1439)) return -1;
        return clocksOf(set, t);
    }

    public int fewest(int bound, int t) {
        if (out(bound, 0, 999) || out(t, 0, 1439)) return -1;
        if (s.towers.isEmpty()) return -3;
        for (int size = 1; size <= 9; size++) {
            for (int set = 1; set < 1 << s.towers.size(); set++) {
                if (Integer.bitCount(set) != size) continue;
                int c = clocksOf(set, t);
                if (c >= 0 && c <= bound) return set;
            }
        }
        return -3;
    }

    public int crossed(int t, int u) {
        if (out(t, 0, 1439) || out(u, 0, 1439)) return -1;
        if (s.towers.isEmpty()) return -3;
        TreeMap<Integer, Held> first = bothWays(0, t);
        TreeMap<Integer, Held> last = bothWays(s.towers.size() - 1, u);
        for (int k : first.keySet()) {
            if (last.containsKey(k) && last.get(k).came <= first.get(k).came) return k;
        }
        return -3;
    }

    Integer noonOf(int k, int t) {
        Held h = bothWays(0, t).get(k);
        return h == null ? null : Integer.valueOf(h.came - (h.held - 720));
    }

    public int noon(int k, int t) {
        if (none(k) || out(t, 0, 1439)) return -1;
        Integer noon = noonOf(k, t);
        return noon == null ? -3 : noon + 10000;
    }

    public int firstNoon(int t) {
        if (out(t, 0, 1439)) return -1;
        int best = -3;
        for (int k = s.towers.size() - 1; k >= 0; k--) {
            if (noonOf(k, t) != null && (best < 0 || noonOf(k, t) <= noonOf(best, t))) best = k;
        }
        return best;
    }

    public int waits(int from, int to, int t) {
        if (none(from) || none(to) || from == to || out(t, 0, 1439)) return -1;
        Integer a = noonOf(from, t);
        Integer b = noonOf(to, t);
        if (a == null || b == null) return -3;
        int there = a;
        for (int k = from; k != to; k += Integer.signum(to - from)) {
            there += 20 * s.towers.get(to > from ? k + 1 : k).miles;
        }
        return b - there + 10000;
    }

    static int sum(Map<Integer, Held> to) {
        return to.values().stream().mapToInt(h -> Math.abs(h.off())).sum();
    }

    public int mender(int from, int t) {
        if (badCry(from, t)) return -1;
        TreeMap<Integer, Held> now = bothWays(from, t);
        TreeMap<Integer, List<Integer>> bySum = new TreeMap<>();
        for (int k = 0; k < s.towers.size(); k++) {
            int was = s.towers.get(k).kind;
            s.towers.get(k).kind = 4;
            TreeMap<Integer, Held> then = bothWays(from, t);
            s.towers.get(k).kind = was;
            if (then.size() >= now.size() && sum(then) < sum(now)) {
                bySum.computeIfAbsent(sum(then), x -> new ArrayList<>()).add(k);
            }
        }
        return bySum.isEmpty() ? -3 : bySum.firstEntry().getValue().get(0);
    }

    public int bestDay(int k, int from, int t) {
        if (none(k) || badCry(from, t)) return -1;
        int best = -3;
        int near = 1 << 30;
        for (int day = 0; day < 7; day++) {
            Held h = bothWays(from, t, day).get(k);
            if (h != null && Math.abs(h.off()) < near) {
                best = day;
                near = Math.abs(h.off());
            }
        }
        return best;
    }

    public int latest(int from, int k, int by) {
        if (none(from) || none(k) || out(by, 0, 9999)) return -1;
        int best = -3;
        for (int t = 0; t < 1440; t++) {
            Held h = bothWays(from, t).get(k);
            if (h != null && h.came <= by) best = t;
        }
        return best;
    }

    public int seed(int v) {
        int was = s.z;
        s.z = v;
        return was;
    }

    void drawn(int day) {
        s.z = (int) ((long) s.z * 1103515245L + 12345L);
        long unsigned = (s.z & 0xffffffffL) / 65536;
        s.wind[day] = (int) (unsigned % 7) - 3;
    }

    public int draw(int day) {
        if (out(day, 0, 6)) return -1;
        drawn(day);
        return s.wind[day] + 100;
    }

    public int often(int k, int bound, int t, int n) {
        if (none(k) || out(bound, 0, 999) || out(t, 0, 1439) || out(n, 1, 60)) return -1;
        Kept was = s.copy();
        int often = 0;
        for (int i = 0; i < n; i++) {
            drawn(s.day);
            Held h = bothWays(0, t).get(k);
            if (h != null && Math.abs(h.off()) <= bound) often++;
        }
        s = was;
        return often;
    }

    public int lost(int k, int t) {
        if (none(k) || out(t, 0, 1439)) return -1;
        int now = bothWays(0, t).size();
        int then = oneWay(0, t, true, s.day, k + 1).size();
        return now - then;
    }

    // ---- reports

    public int report(int k, int hour) {
        if (none(k) || out(hour, 0, 9999)) return -1;
        if (s.reports.size() == 6) return -2;
        s.reports.add(new int[] {k, hour});
        return s.reports.size() - 1;
    }

    public int forget() {
        int were = s.reports.size();
        s.reports.clear();
        return were;
    }

    List<Integer> fitting(int from, int but) {
        List<Integer> fit = new ArrayList<>();
        for (int t = 0; t < 1440; t++) {
            TreeMap<Integer, Held> to = bothWays(from, t);
            boolean all = true;
            for (int i = 0; i < s.reports.size(); i++) {
                Held h = to.get(s.reports.get(i)[0]);
                if (i != but && (h == null || h.held != s.reports.get(i)[1])) all = false;
            }
            if (all) fit.add(t);
        }
        return fit;
    }

    public int fits(int from, int what) {
        if (none(from) || out(what, 0, 2)) return -1;
        List<Integer> fit = fitting(from, -1);
        if (what == 0) return fit.size();
        if (fit.isEmpty()) return -3;
        return fit.get(what == 1 ? 0 : fit.size() - 1);
    }

    public int liar(int from) {
        if (none(from)) return -1;
        if (!fitting(from, -1).isEmpty()) return -3;
        for (int i = 0; i < s.reports.size(); i++) {
            if (!fitting(from, i).isEmpty()) return i;
        }
        return -3;
    }

    // ---- rows

    public int prove(int from, int t, boolean west) {
        if (badCry(from, t)) return -1;
        rows = new ArrayList<>();
        TreeMap<Integer, Held> to = oneWay(from, t, west, s.day, -1);
        for (int k : west ? to.keySet() : to.descendingKeySet()) {
            rows.add(new int[] {k, to.get(k).came, to.get(k).held});
        }
        return rows.size();
    }

    public int row(int i, int what) {
        if (out(i, 0, rows.size() - 1) || out(what, 0, 2)) return -9;
        return rows.get(i)[what];
    }

    public int alterRow(int i, int what, int v) {
        if (out(i, 0, rows.size() - 1) || out(what, 0, 2)) return -9;
        int was = rows.get(i)[what];
        rows.get(i)[what] = v;
        return was;
    }

    public int judge(boolean west) {
        for (int i = 0; i < rows.size(); i++) {
            int[] r = rows.get(i);
            if (i == 0) {
                if (badCry(r[0], r[1]) || r[1] != r[2]) return 1;
                continue;
            }
            // what the row ahead would bring
            int[] ahead = rows.get(i - 1);
            int step = west ? 1 : -1;
            int k = ahead[0] + step;
            if (none(k) || i > 1 && silent(ahead[0], s.day)) return i + 1;
            int came = ahead[1] + (i > 1 ? s.towers.get(ahead[0]).delay : 0)
                + s.towers.get(Math.max(k, ahead[0])).miles * (4 + step * s.wind[s.day]);
            if (s.towers.get(k).kind == 5 && came < 360) return i + 1;
            if (!Arrays.equals(r, new int[] {k, came, ahead[2] + adds(k, s.day)})) return i + 1;
        }
        return 0;
    }

    // ---- the host, with what the machine itself refuses

    public int sheet(int sheet, int sort, int n) {
        if (out(sheet, 0, 3) || out(sort, -1, 4)) return -1;
        if (sort == -1) {
            sheets[sheet] = null;
            return 1;
        }
        if (n > 40) return -1;
        try {
            sheets[sheet] = switch (sort) {
                case 0 -> new byte[n];
                case 1 -> new short[n];
                case 2 -> new int[n];
                case 3 -> new long[n];
                default -> new boolean[n];
            };
            return 1;
        } catch (NegativeArraySizeException e) {
            return -14;
        }
    }

    public int write(int sheet, int i, int v) {
        if (out(sheet, 0, 3)) return -1;
        if (sheets[sheet] == null) return -11;
        try {
            if (sheets[sheet] instanceof byte[] r) r[i] = (byte) v;
            if (sheets[sheet] instanceof short[] r) r[i] = (short) v;
            if (sheets[sheet] instanceof int[] r) r[i] = v;
            if (sheets[sheet] instanceof long[] r) r[i] = v;
            if (sheets[sheet] instanceof boolean[] r) r[i] = v != 0;
            return 1;
        } catch (ArrayIndexOutOfBoundsException e) {
            return -12;
        }
    }

    public int item(int sheet, int sort, int i) {
        if (out(sheet, 0, 3) || out(sort, 0, 4)) return -1;
        try {
            return switch (sort) {
                case 0 -> ((byte[]) sheets[sheet])[i];
                case 1 -> ((short[]) sheets[sheet])[i];
                case 2 -> ((int[]) sheets[sheet])[i];
                case 3 -> (int) ((long[]) sheets[sheet])[i];
                default -> ((boolean[]) sheets[sheet])[i] ? 1 : 0;
            };
        } catch (ClassCastException e) {
            return -13;
        } catch (NullPointerException e) {
            return -11;
        } catch (ArrayIndexOutOfBoundsException e) {
            return -12;
        }
    }

    public int adds(int sheet, int i, int n) {
        if (out(sheet, 0, 3) || out(n, 0, 9)) return -1;
        int came = 0;
        try {
            byte[] bytes = (byte[]) sheets[sheet];
            if (bytes == null) return -11;
            for (int k = 0; k < n; k++) {
                if (change(k, 1, bytes[i + k]) >= 0) came++;
            }
            return came;
        } catch (ClassCastException e) {
            return -13;
        } catch (ArrayIndexOutOfBoundsException e) {
            return -12;
        }
    }

    public int shelf(int shelf, int what, int n) {
        if (out(shelf, 0, 3) || out(what, 0, 2)) return -1;
        if (what == 0 && none(n) || what == 1 && out(n, 0, 3)) return -1;
        shelves[shelf] = what == 0 ? Integer.valueOf(n) : what == 1 ? sheets[n] : null;
        return 1;
    }

    Object thing(int shelf) {
        Object o = shelves[shelf];
        return o instanceof Integer k && none(k) ? null : o;
    }

    public int taken(int shelf, int as) {
        if (out(shelf, 0, 3) || out(as, 0, 14) || as > 5 && as < 10) return -1;
        Object o = thing(shelf);
        if (o == null) return -11;
        if (o instanceof Integer k) return as < 10 && isOrUnder(s.towers.get(k).kind, as) ? k : -13;
        int sort = o instanceof byte[] ? 0 : o instanceof short[] ? 1 : o instanceof int[] ? 2 : o instanceof long[] ? 3 : 4;
        return as - 10 == sort ? java.lang.reflect.Array.getLength(o) : -13;
    }

    int n;
    int a;

    /** A body of a class, or of the nearest one above that has it. */
    int body(String kind, String act, int x) {
        String name = kind + "." + act;
        switch (name) {
            case "watchman.cries":
                trace.add(10);
                return x + n;
            case "watchman.hears":
                trace.add(11);
                return own("cries", x) * 2;
            case "watchman.shares":
                trace.add(12);
                return x / (a - n);
            case "watchman.tells":
                trace.add(13);
                return own("hears", x) ^ a;
            case "plain.cries":
                trace.add(20);
                return body("watchman", act, x) * 3;
            case "proud.hears":
                trace.add(30);
                return body("watchman", act, x) - a;
            case "mender.shares":
                trace.add(40);
                return body("watchman", act, x + 1);
            case "drunk.cries":
                trace.add(50);
                return body("proud", act, x) ^ n;
            case "drunk.tells":
                trace.add(51);
                return body("proud", act, x) + own("shares", n);
            case "sleeper.hears":
                trace.add(60);
                return 0 - body("mender", act, x);
            case "sleeper.shares":
                trace.add(61);
                return body("mender", act, x) + own("cries", a);
            default:
                return body(PARENT.get(kind), act, x);
        }
    }

    String kindOfThing;

    int own(String act, int x) {
        return body(kindOfThing, act, x);
    }

    public int act(int shelf, int act, int x) {
        trace.clear();
        if (out(shelf, 0, 3) || out(act, 0, 3) || !(thing(shelf) instanceof Integer k)) return 0;
        n = k;
        a = s.towers.get(k).delay;
        kindOfThing = KINDS[s.towers.get(k).kind];
        try {
            return own(new String[] {"cries", "hears", "shares", "tells"}[act], x);
        } catch (ArithmeticException e) {
            return -15;
        }
    }

    public int trace(int i) {
        return i >= 0 && i < Math.min(30, trace.size()) ? trace.get(i) : -3;
    }

    public int many(int what) {
        return switch (what) {
            case 0 -> s.towers.size();
            case 1 -> s.rules.size();
            case 2 -> s.reports.size();
            case 3 -> rows.size();
            case 4 -> holding();
            case 5 -> tape.length();
            case 6 -> Math.min(30, trace.size());
            default -> -1;
        };
    }

    public int keep() {
        kept = s.copy();
        return 1;
    }

    public int again() {
        if (kept == null) return -3;
        s = kept.copy();
        return s.towers.size();
    }
}
