import java.io.IOException;
import java.lang.reflect.InvocationTargetException;
import java.lang.reflect.Method;
import java.util.ArrayList;
import java.util.List;
import java.util.Map;
import java.util.TreeMap;

/**
 * Tests of boundary cases: each a run of calls on a new object, told with the sentence of the document that it stands for.
 *
 * A call is written as "name(1, true) -> answer"; without an answer due it only prepares. More ways to write one:
 * "name({1|2}, 0) -> answer": for each of these; "9 times: call"; LOW and HIGH: the least and the greatest int;
 * "text: plain" feeds a text to THE TAPE; "rules: plain add 1; -> 1" feeds one and calls rules();
 * "ValleyA" puts the towers of ValleyA.
 */
final class Boundaries {
    private static final int MOST_CALLS = 512;
    private static final Map<String, Method> METHODS = new TreeMap<>();

    static {
        for (Method m : ShoutedHour.class.getMethods()) {
            if (m.getDeclaringClass() == ShoutedHour.class) {
                METHODS.put(m.getName(), m);
            }
        }
    }

    private final Document document = new Document();
    private final boolean isListed;
    private final int[] tests = new int[Document.PROMISES + 1];
    private int promise = 0;
    private int wrong = 0;
    private int answers = 0;
    private String told = "";
    private ShoutedHour x = null;
    private int calls = 0;
    private List<Integer> untouched = null;

    /** If listed, each test is printed: its promise, its sentence, its boundary. */
    Boundaries(boolean isListed) throws IOException {
        this.isListed = isListed;
    }

    /** The promise whose boundary cases follow. */
    void promise(int number) {
        promise = number;
    }

    /** A test of its own: the sentence (pieces of it parted by " .. "), which boundary of it, the run of calls. */
    void test(String sentence, String boundary, String... run) {
        begin(sentence, boundary);
        int before = answers;
        calls(run);
        if (answers == before) {
            isWrong("no answer is due in it");
        }
    }

    /** The same for calls that must leave all as it was: each of them by itself on Rich. */
    void unchanged(String sentence, String boundary, String... calls) {
        for (String call : calls) {
            for (String each : spelt(call)) {
                begin(sentence, boundary);
                calls(Rich.MADE);
                line(each);
                List<Integer> are = Rich.askedOf(this);
                List<Integer> due = untouched();
                for (int i = 0; i < due.size(); i++) {
                    due("after " + each + " question " + i + " of Rich", are.get(i), due.get(i));
                }
            }
        }
    }

    /** What Rich answers when nothing was called after it was made. */
    private List<Integer> untouched() {
        if (untouched == null) {
            x = new ShoutedHour();
            calls = 0;
            calls(Rich.MADE);
            untouched = Rich.askedOf(this);
        }
        return untouched;
    }

    private void begin(String sentence, String boundary) {
        tests[promise]++;
        told = "promise " + promise + ", \"" + sentence + "\", " + boundary;
        x = new ShoutedHour();
        calls = 0;
        if (isListed) {
            System.out.println(told);
        }
        if (!document.tells(promise, sentence)) {
            isWrong("the document does not tell this");
        }
    }

    private void isWrong(String what) {
        wrong++;
        System.out.println("BoundaryTest, " + told + ": " + what);
    }

    void due(String call, long got, long want) {
        answers++;
        if (got != want) {
            isWrong(call + " answered " + got + ", due is " + want);
        }
    }

    void calls(String... run) {
        for (String line : run) {
            if (line.matches("\\d+ times: .*")) {
                int times = Integer.parseInt(line.substring(0, line.indexOf(' ')));
                for (int i = 0; i < times; i++) {
                    line(line.substring(line.indexOf(": ") + 2));
                }
            } else {
                line(line);
            }
        }
    }

    private void line(String line) {
        int arrow = line.lastIndexOf(" -> ");
        String call = arrow < 0 ? line : line.substring(0, arrow);
        if (call.equals("ValleyA")) {
            for (int[] t : ValleyA.TOWERS) {
                answer("tower(" + t[0] + ", " + t[1] + ", " + t[2] + ", " + t[3] + ")");
            }
        } else if (call.startsWith("text: ")) {
            feed(call.substring(6));
        } else if (call.startsWith("rules: ")) {
            feed(call.substring(7));
            line("rules()" + line.substring(call.length()));
        } else {
            for (String each : spelt(call)) {
                int got = answer(each);
                if (arrow >= 0) {
                    due(each, got, Integer.parseInt(line.substring(arrow + 4)));
                }
            }
        }
    }

    private void feed(String text) {
        for (int i = 0; i < text.length(); i += 8) {
            int n = Math.min(8, text.length() - i);
            long eight = 0;
            for (int j = 0; j < n; j++) {
                eight |= (long) (text.charAt(i + j) & 255) << 8 * j;
            }
            answer("feed(" + eight + ", " + n + ")");
        }
    }

    /** A call for each of what stands between { and }. */
    private static List<String> spelt(String call) {
        int open = call.indexOf('{');
        if (open < 0) {
            return List.of(call);
        }
        int close = call.indexOf('}');
        List<String> calls = new ArrayList<>();
        for (String each : call.substring(open + 1, close).split("\\|")) {
            calls.addAll(spelt(call.substring(0, open) + each + call.substring(close + 1)));
        }
        return calls;
    }

    /** What the object answers to a call. */
    int answer(String call) {
        calls++;
        if (calls > MOST_CALLS) {
            isWrong("an object is used for at most " + MOST_CALLS + " calls");
        }
        int open = call.indexOf('(');
        Method method = METHODS.get(call.substring(0, open));
        if (method == null) {
            throw new IllegalArgumentException(call);
        }
        String inside = call.substring(open + 1, call.length() - 1);
        String[] told = inside.isEmpty() ? new String[0] : inside.split(", ");
        Class<?>[] types = method.getParameterTypes();
        Object[] arguments = new Object[told.length];
        for (int i = 0; i < told.length; i++) {
            arguments[i] = argument(types[i], told[i]);
        }
        try {
            return (int) method.invoke(x, arguments);
        } catch (InvocationTargetException e) {
            throw new IllegalStateException(call + " threw", e.getCause());
        } catch (IllegalAccessException e) {
            throw new IllegalStateException(call, e);
        }
    }

    private static Object argument(Class<?> type, String told) {
        if (type == boolean.class) {
            return Boolean.valueOf(told);
        }
        if (type == long.class) {
            return Long.valueOf(told);
        }
        return told.equals("LOW") ? Integer.MIN_VALUE : told.equals("HIGH") ? Integer.MAX_VALUE : Integer.parseInt(told);
    }

    /** Ends with exit code 1 if an answer was wrong, a promise has no test, or words of the document stand in none. */
    void end() {
        int all = 0;
        for (int part = 0; part <= Document.PROMISES; part++) {
            promise = part;
            told = part == 0 ? "Terms" : "promise " + part;
            for (String piece : document.unquoted(part)) {
                isWrong("no test tells: " + piece);
            }
            if (part > 0 && tests[part] == 0) {
                isWrong("it has no test");
            }
            all += tests[part];
        }
        System.out.println("BoundaryTest: " + all + " tests of " + Document.PROMISES + " promises, "
            + answers + " answers, " + wrong + " wrong");
        if (wrong != 0) {
            System.exit(1);
        }
    }
}
