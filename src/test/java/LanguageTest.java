import java.lang.reflect.Constructor;
import java.lang.reflect.Field;
import java.lang.reflect.Member;
import java.lang.reflect.Method;
import java.lang.reflect.Modifier;
import java.nio.charset.StandardCharsets;
import java.nio.file.Files;
import java.nio.file.Path;
import java.util.ArrayList;
import java.util.HashSet;
import java.util.List;
import java.util.Set;
import java.util.TreeSet;
import java.util.regex.Matcher;
import java.util.regex.Pattern;

/** What of ../shared/LANGUAGE.md can be seen from outside: the face, and the words of the source. */
public final class LanguageTest {
    private static final Due d = new Due("LanguageTest");
    private static final Path SOURCE = Path.of("src/main/java/ShoutedHour.java");
    private static final Path DOCUMENT = Path.of("../shared/DOC.md");

    public static void main(String[] args) throws Exception {
        face();
        classes();
        words();
        library();
        methods();
        objects();
        d.end();
    }

    private static String of(Class<?>[] types) {
        List<String> names = new ArrayList<>();
        for (Class<?> type : types) {
            names.add(type.getName());
        }
        return names.toString();
    }

    /** Rule 1: the methods of the document's face, and no other member that isn't private. */
    private static void face() throws Exception {
        Set<String> due = new TreeSet<>();
        Matcher told = Pattern.compile("public int (\\w+)\\(([^)]*)\\);").matcher(Files.readString(DOCUMENT));
        while (told.find()) {
            List<String> types = new ArrayList<>();
            for (String parameter : told.group(2).split(", ")) {
                if (!parameter.isEmpty()) {
                    types.add(parameter.split(" ")[0]);
                }
            }
            due.add(told.group(1) + types);
        }
        Set<String> are = new TreeSet<>();
        for (Method m : ShoutedHour.class.getDeclaredMethods()) {
            if (!Modifier.isPrivate(m.getModifiers())) {
                d.due(m + " is public and of the object", m.getModifiers(), Modifier.PUBLIC);
                d.holds(m + " answers an int", m.getReturnType() == int.class);
                are.add(m.getName() + of(m.getParameterTypes()));
            }
        }
        d.holds("the face is " + due + ", not " + are, due.equals(are));
        d.due("methods of the face", are.size(), 50);
        Set<String> constants = new TreeSet<>();
        for (Field f : ShoutedHour.class.getDeclaredFields()) {
            if (!Modifier.isPrivate(f.getModifiers())) {
                constants.add(f.getName());
            }
        }
        d.holds("the constants are " + constants, constants.equals(Set.of("BAD", "FULL", "NONE", "STATE")));
        Constructor<?>[] constructors = ShoutedHour.class.getDeclaredConstructors();
        d.due("constructors", constructors.length, 1);
        d.due("its parameters", constructors[0].getParameterCount(), 0);
        d.due("the class is public and final", ShoutedHour.class.getModifiers(), Modifier.PUBLIC | Modifier.FINAL);
    }

    private static void classes() throws Exception {
        Set<String> faces = new HashSet<>();
        for (Method m : ShoutedHour.class.getDeclaredMethods()) {
            if (Modifier.isPublic(m.getModifiers())) {
                faces.add(m.getName());
            }
        }
        List<Class<?>> all = new ArrayList<>(List.of(ShoutedHour.class));
        all.addAll(List.of(ShoutedHour.class.getDeclaredClasses()));
        d.holds("at most twelve classes", all.size() <= 12);
        for (Class<?> c : all) {
            if (c != ShoutedHour.class) {
                d.holds(c + " is static", Modifier.isStatic(c.getModifiers()));
                d.holds(c + " isn't public", !Modifier.isPublic(c.getModifiers()) && !Modifier.isProtected(c.getModifiers()));
            }
            int fields = 0;
            for (Field f : c.getDeclaredFields()) {
                if (Modifier.isStatic(f.getModifiers())) {
                    d.holds(f + " is final", Modifier.isFinal(f.getModifiers()));
                } else {
                    fields++;
                }
            }
            d.holds(c + " has at most twenty fields", fields <= 20);
            for (Method m : c.getDeclaredMethods()) {
                d.holds(m + " has at most seven parameters", m.getParameterCount() <= 7);
                d.holds(m + " bears no name of the face", isOfFace(m) || !faces.contains(m.getName()));
                d.holds(m + " isn't of every object", !Set.of("equals", "hashCode", "toString").contains(m.getName()));
            }
        }
    }

    private static boolean isOfFace(Member m) {
        return m.getDeclaringClass() == ShoutedHour.class && Modifier.isPublic(m.getModifiers());
    }

    /** The source without its comments. */
    private static String code() throws Exception {
        String all = Files.readString(SOURCE, StandardCharsets.ISO_8859_1);
        return all.replaceAll("(?s)/\\*.*?\\*/", " ").replaceAll("//[^\n]*", " ");
    }

    private static void words() throws Exception {
        String code = code();
        for (String word : new String[] {"throw", "throws", "try", "catch", "finally", "synchronized", "assert", "package",
            "var", "record", "volatile", "native", "instanceof", "null", "hashCode", "equals", "getClass", "Object",
            "Thread", "Random", "System\\.(?!arraycopy)\\w+", "Math\\.\\w+Exact", "Integer\\.valueOf", "float", "double"}) {
            d.holds("no " + word, !Pattern.compile("\\b" + word + "\\b").matcher(code).find());
        }
        for (String sign : new String[] {"->", "::", "@", "\" +", "+ \"", "...", "yield "}) {
            d.holds("no " + sign, !code.contains(sign));
        }
        Matcher imports = Pattern.compile("import ([^;]+);").matcher(code);
        while (imports.find()) {
            d.holds("import " + imports.group(1), imports.group(1).equals("java.util.Arrays"));
        }
        String all = Files.readString(SOURCE, StandardCharsets.ISO_8859_1);
        d.holds("signs 1 to 127 alone", all.chars().allMatch(c -> c == '\n' || c >= 32 && c < 127));
    }

    /** Rule 4, "The library: only what stands here": static functions that it lists, and no constant such as the greatest int. */
    private static void library() throws Exception {
        Set<String> own = new HashSet<>();
        for (Class<?> c : ShoutedHour.class.getDeclaredClasses()) {
            own.add(c.getSimpleName());
        }
        Matcher told = Pattern.compile("\\b([A-Z][a-z]\\w*)\\.(\\w+\\(?)").matcher(code());
        while (told.find()) {
            if (!own.contains(told.group(1))) {
                d.holds("of the library " + told.group(), told.group().matches("(Integer|Long|Math)\\.[a-z]\\w*(?<!Exact)\\("
                    + "|Arrays\\.(copyOf|copyOfRange|fill)\\(|System\\.arraycopy\\("));
            }
        }
        Matcher types = Pattern.compile("\\b[A-Z][a-z]\\w*").matcher(code());
        while (types.find()) {
            d.holds("a class of its own or of the library's: " + types.group(), own.contains(types.group())
                || Set.of("ShoutedHour", "String", "Integer", "Math", "Arrays", "System").contains(types.group()));
        }
    }

    /** Rule 11: methods of some sixty lines; a method starts at 4 or 8 blanks and ends at the same. */
    private static void methods() throws Exception {
        String[] lines = Files.readString(SOURCE).split("\n");
        for (int i = 0; i < lines.length; i++) {
            Matcher start = Pattern.compile("^(    |        )\\w[^=;]*\\) \\{$").matcher(lines[i]);
            if (start.find()) {
                int end = i;
                while (!lines[end].equals(start.group(1) + "}")) {
                    end++;
                }
                d.holds(lines[i].trim() + " has at most sixty lines", end - i < 60);
            }
        }
    }

    /** Objects and arrays are made where fields are declared, so that no call makes any. */
    private static void objects() throws Exception {
        for (String line : code().split("\n")) {
            if (line.contains("new ")) {
                d.holds("made in a field: " + line.trim(), line.matches("\\s+(private )?final .*= (new .*|\\{new .*)")
                    || line.matches("\\s+new Drunk\\(ran\\), new Mender\\(ran\\), new Sleeper\\(ran\\)\\};"));
            }
        }
    }
}
