import java.lang.reflect.Method;
import java.util.ArrayList;
import java.util.List;
import java.util.Random;

/**
 * Runs of calls drawn from fixed seeds, on ShoutedHour and on the Model; each answer must be the same.
 * Arguments: how many runs, the first seed, how many calls a run.
 */
public final class RandomRunsTest {
    /**
     * Each method, how often it is drawn, and what its arguments are drawn from: low..high; k: a TOWER;
     * t: a MINUTE of a CRY; s: a set of TOWERS; b: a boolean; i: any int; l: any long.
     */
    private static final String[] CALLS = {
        "tower 4 1..5 0..99 0..9 1..20", "towerOf 9 k 0..7", "change 6 k 1..3 0..99", "turn 4 k 1..5", "day 4 0..6",
        "wind 4 0..6 -3..3", "pace 2 b", "feed 3 l 1..8", "rules 2", "cry 6 k t b", "shows 6 k 0..9999", "hush 1",
        "comes 5 k t k", "holds 5 k t k", "off 5 k t k", "worst 5 k t", "within 5 k t 0..999", "bestAdd 1 k k t",
        "clocks 4 s t", "fewest 1 0..60 t", "crossed 6 t t", "noon 4 k t", "firstNoon 4 t", "waits 5 k k t",
        "mender 4 k t", "bestDay 4 k k t", "latest 1 k k 0..9999", "seed 2 i", "draw 3 0..6", "often 2 k 0..99 t 1..60",
        "lost 4 k t", "report 3 k 0..9999", "forget 1", "fits 1 k 0..2", "liar 1 k", "prove 4 k t b", "row 6 0..8 0..2",
        "alterRow 2 0..8 0..2 i", "judge 5 b", "sheet 4 0..3 -1..4 0..40", "write 6 0..3 0..9 i", "item 9 0..3 0..4 0..9",
        "adds 4 0..3 0..9 0..9", "shelf 6 0..3 0..2 0..8", "taken 9 0..3 0..14", "act 9 0..3 0..3 i", "trace 4 0..9",
        "many 9 0..6", "keep 1", "again 1",
    };

    private final Random random;
    private final ShoutedHour hour = new ShoutedHour();
    private final Model model = new Model();
    private final List<String> told = new ArrayList<>();

    private RandomRunsTest(long seed) {
        random = new Random(seed);
    }

    public static void main(String[] args) throws Exception {
        int runs = args.length > 0 ? Integer.parseInt(args[0]) : 400;
        int first = args.length > 1 ? Integer.parseInt(args[1]) : 1;
        int calls = args.length > 2 ? Integer.parseInt(args[2]) : 300;
        for (int seed = first; seed < first + runs; seed++) {
            RandomRunsTest run = new RandomRunsTest(seed);
            if (!run.runs(calls)) {
                System.out.println("RandomRunsTest, seed " + seed + ":");
                run.told.forEach(System.out::println);
                System.exit(1);
            }
        }
        System.out.println("RandomRunsTest: " + runs + " runs of " + calls + " calls are as the model's");
    }

    private boolean runs(int calls) throws Exception {
        int towers = random.nextInt(10);
        for (int i = 0; i < towers; i++) {
            if (!same("tower", 1 + random.nextInt(5), random.nextInt(40), random.nextInt(10), 1 + random.nextInt(9))) {
                return false;
            }
        }
        while (told.size() < calls) {
            if (random.nextInt(12) == 0 ? !sameRules() : random.nextInt(40) == 0 ? !sameTrueReport() : !sameCall()) {
                return false;
            }
        }
        return true;
    }

    private boolean sameCall() throws Exception {
        int all = 0;
        for (String call : CALLS) {
            all += Integer.parseInt(call.split(" ")[1]);
        }
        int drawn = random.nextInt(all);
        for (String call : CALLS) {
            String[] parts = call.split(" ");
            drawn -= Integer.parseInt(parts[1]);
            if (drawn < 0) {
                Object[] arguments = new Object[parts.length - 2];
                for (int i = 0; i < arguments.length; i++) {
                    arguments[i] = argument(parts[i + 2]);
                }
                return same(parts[0], arguments);
            }
        }
        return true;
    }

    private Object argument(String of) {
        switch (of) {
            case "b": return random.nextBoolean();
            case "l": return random.nextLong();
            case "i": return anyInt();
            case "t": return random.nextBoolean() ? within(250, 420) : within(0, 1439);
            case "k": return within(0, Math.max(0, model.many(0) - 1));
            case "s": return random.nextBoolean() ? within(0, (1 << model.many(0)) - 1) : 1 | within(0, 511);
            default:
                String[] ends = of.split("\\.\\.");
                return within(Integer.parseInt(ends[0]), Integer.parseInt(ends[1]));
        }
    }

    private int anyInt() {
        switch (random.nextInt(4)) {
            case 0: return random.nextInt();
            case 1: return random.nextInt(5) - 2;
            case 2: return random.nextInt(400) - 150;
            default: return new int[] {Integer.MAX_VALUE, Integer.MIN_VALUE, 0x12345678, 65535, 128}[random.nextInt(5)];
        }
    }

    /** Mostly from low to high, at times just at or beyond an end. */
    private int within(int low, int high) {
        if (random.nextInt(14) != 0) {
            return low + random.nextInt(high - low + 1);
        }
        switch (random.nextInt(7)) {
            case 0: return low - 1;
            case 1: return high + 1;
            case 2: return low;
            case 3: return high;
            case 4: return Integer.MAX_VALUE;
            case 5: return Integer.MIN_VALUE;
            default: return random.nextInt();
        }
    }

    private boolean same(String name, Object... arguments) throws Exception {
        int got = (Integer) method(ShoutedHour.class, name).invoke(hour, arguments);
        int want = (Integer) method(Model.class, name).invoke(model, arguments);
        told.add(name + java.util.Arrays.toString(arguments) + " answered " + got + (got == want ? "" : ", due is " + want));
        return got == want;
    }

    private static Method method(Class<?> of, String name) {
        for (Method m : of.getMethods()) {
            if (m.getName().equals(name) && m.getDeclaringClass() == of) {
                return m;
            }
        }
        throw new IllegalStateException(name);
    }

    // ---- texts of rules

    private boolean sameRules() throws Exception {
        StringBuilder text = new StringBuilder();
        int rules = random.nextInt(5) == 0 ? 6 + random.nextInt(5) : random.nextInt(5);
        for (int i = 0; i < rules; i++) {
            addRule(text);
        }
        if (random.nextBoolean()) {
            spoil(text);
        }
        if (text.length() > 200) {
            text.setLength(200);
        }
        told.add("text: " + text);
        while (model.many(5) > 0) {
            if (!same("rules")) {
                return false;
            }
        }
        for (int i = 0; i < text.length(); i += 8) {
            int n = Math.min(8, text.length() - i);
            long eight = random.nextLong();
            for (int j = 0; j < n; j++) {
                eight = eight & ~(255L << 8 * j) | (long) text.charAt(i + j) << 8 * j;
            }
            if (!same("feed", eight, n)) {
                return false;
            }
        }
        boolean same = same("rules") && same("many", 1) && same("many", 5);
        for (int k = 0; k < model.many(0); k++) {
            same = same && same("towerOf", k, 4) && same("towerOf", k, 5);
        }
        return same;
    }

    private String one(String... of) {
        return of[random.nextInt(of.length)];
    }

    private void blank(StringBuilder text) {
        text.append(random.nextInt(6) == 0 ? "  " : random.nextInt(4) == 0 ? "" : " ");
    }

    private void addRule(StringBuilder text) {
        text.append(one("watchman", "plain", "proud", "drunk", "mender", "sleeper", "watchman")).append(" ");
        if (random.nextInt(4) != 0) {
            text.append("if");
            text.append(" ");
            addCondition(text, 0);
            text.append(" ");
        }
        switch (random.nextInt(4)) {
            case 0: text.append("add ").append(random.nextInt(102)); break;
            case 1: text.append("more ").append(random.nextInt(102)); break;
            case 2: text.append("mile ").append(random.nextInt(11)); break;
            default: text.append("silent"); break;
        }
        blank(text);
        text.append(";");
        blank(text);
    }

    private void addCondition(StringBuilder text, int depth) {
        int ones = 1 + (random.nextInt(2) == 0 ? random.nextInt(3) : 0);
        for (int i = 0; i < ones; i++) {
            if (i > 0) {
                text.append(" ").append(one("and", "or")).append(" ");
            }
            while (random.nextInt(5) == 0) {
                text.append("not ");
            }
            if (random.nextInt(4) == 0 && depth < 4) {
                text.append("(");
                blank(text);
                addCondition(text, depth + 1);
                blank(text);
                text.append(")");
            } else {
                addComparison(text);
            }
        }
    }

    private void addComparison(StringBuilder text) {
        String fact = one("day", "wind", "add", "delay", "miles", "number");
        String other = random.nextInt(4) == 0 ? one("day", "wind", "add", "delay", "miles", "number")
            : String.valueOf(random.nextInt(fact.equals("add") ? 60 : 10));
        boolean turned = random.nextInt(4) == 0;
        text.append(turned ? other : fact);
        blank(text);
        text.append(one("<", "=", ">"));
        blank(text);
        text.append(turned ? fact : other);
    }

    private void spoil(StringBuilder text) {
        for (int times = 1 + random.nextInt(2); times > 0; times--) {
            int at = random.nextInt(text.length() + 1);
            switch (random.nextInt(5)) {
                case 0: text.setLength(at); break;
                case 1:
                    if (at < text.length()) {
                        text.deleteCharAt(at);
                    }
                    break;
                case 2: text.insert(at, (char) random.nextInt(256)); break;
                case 3:
                    text.insert(at, one(" ", ";", "(", ")", "<", "=", "not ", " and ", " or ", "if ", "add ", "9", "12345",
                        "00001", "0007", " silent", "plain ", "((((", "day"));
                    break;
                default:
                    if (at < text.length()) {
                        text.setCharAt(at, (char) random.nextInt(256));
                    }
                    break;
            }
        }
    }

    /** A report that some cry bears out, so that fits() and liar() have something to find. */
    private boolean sameTrueReport() throws Exception {
        if (model.many(0) == 0) {
            return true;
        }
        int from = random.nextInt(model.many(0));
        int t = random.nextInt(1440);
        boolean same = random.nextBoolean() || same("forget");
        for (int i = 0; i < 1 + random.nextInt(4); i++) {
            int k = random.nextInt(model.many(0));
            int hour = random.nextInt(5) == 0 ? within(0, 9999) : model.holds(from, t, k);
            same = same && same("report", k, hour);
        }
        return same && same("fits", from, 0) && same("fits", from, 1) && same("fits", from, 2) && same("liar", from);
    }
}
