import java.lang.reflect.Method;
import java.nio.file.Files;
import java.nio.file.Path;
import java.util.regex.Matcher;
import java.util.regex.Pattern;

/** README.md tells how to use the class: its run of calls answers as told there, and no call of the face is left out. */
public final class ReadmeTest {
    private static final Due d = new Due("ReadmeTest");
    private static final Pattern CALL = Pattern.compile("(?m)^x\\.(\\w+)\\((.*)\\); +// (-?\\d+)");

    public static void main(String[] args) throws Exception {
        String readme = Files.readString(Path.of("README.md"));
        String run = readme.substring(readme.indexOf("```java"), readme.indexOf("```\n", readme.indexOf("```java")));
        ShoutedHour x = new ShoutedHour();
        Matcher call = CALL.matcher(run);
        int calls = 0;
        while (call.find()) {
            d.due(call.group(1) + "(" + call.group(2) + ")", answer(x, call.group(1), call.group(2)), Integer.parseInt(call.group(3)));
            calls++;
        }
        d.due("calls of README.md with an answer", calls, Pattern.compile("(?m)^x\\.").matcher(run).results().count());
        for (Method m : ShoutedHour.class.getDeclaredMethods()) {
            if (java.lang.reflect.Modifier.isPublic(m.getModifiers())) {
                d.holds("README.md names " + m.getName(), readme.contains("`" + m.getName() + "`"));
            }
        }
        d.holds("README.md tells how the tests are run", readme.contains("bash .ci/run"));
        d.end();
    }

    private static int answer(ShoutedHour x, String name, String inside) throws Exception {
        for (Method m : ShoutedHour.class.getMethods()) {
            if (m.getName().equals(name) && m.getDeclaringClass() == ShoutedHour.class) {
                String[] told = inside.isEmpty() ? new String[0] : inside.split(", ");
                Object[] arguments = new Object[told.length];
                for (int i = 0; i < told.length; i++) {
                    arguments[i] = argument(m.getParameterTypes()[i], told[i]);
                }
                return (int) m.invoke(x, arguments);
            }
        }
        throw new IllegalStateException(name);
    }

    private static Object argument(Class<?> type, String told) {
        if (type == boolean.class) {
            return Boolean.valueOf(told);
        }
        return type == long.class ? (Object) Long.decode(told.replace("L", "")) : (Object) Integer.valueOf(told);
    }
}
