import java.io.IOException;
import java.lang.reflect.InvocationTargetException;
import java.lang.reflect.Method;
import java.lang.reflect.Modifier;
import java.nio.charset.StandardCharsets;
import java.nio.file.Files;
import java.nio.file.Path;
import java.util.HashSet;
import java.util.List;
import java.util.Set;
import java.util.TreeSet;
import java.util.regex.Matcher;
import java.util.regex.Pattern;

/**
 * Carries out README.md's examples line by line: what a line's comment begins with is what its
 * call has to answer. So an example can't go on saying what the program does no more.
 */
public final class ReadmeTest {
    private static final Path README = Path.of("README.md");
    private static final Pattern NEW = Pattern.compile(
        "MadeCalls x = new MadeCalls\\((-?\\d+)\\);( *//.*)?");
    private static final Pattern CALL = Pattern.compile(
        "x\\.(\\w+)\\(([^()]*)\\); +// (-?\\d+|NONE|BAD|FULL|STATE|throws \\w+)(:.*)?");
    private static final Pattern INT = Pattern.compile("-?\\d+");
    private static final Pattern LONG = Pattern.compile("0x([0-9A-F_]*[0-9A-F])L");
    private static final Pattern NAME = Pattern.compile("`(\\w+)`");

    private static int asked = 0;
    private static int wrong = 0;
    private static MadeCalls x = null;
    private static final Set<String> shown = new HashSet<>();

    public static void main(String[] args) throws IOException {
        List<String> lines = Files.readAllLines(README, StandardCharsets.UTF_8);
        examples(lines);
        everyMethodIsShown();
        everyMethodIsInTheTable(lines);
        testsAreNamed(lines);
        System.out.println("README: " + asked + " answers, " + wrong + " not as due");
        if (wrong != 0) {
            System.exit(1);
        }
    }

    private static void examples(List<String> lines) {
        boolean inside = false;
        int examples = 0;
        for (int i = 0; i < lines.size(); i++) {
            String line = lines.get(i);
            if (!inside && line.equals("```java")) {
                inside = true;
                examples++;
                x = null;
            } else if (inside && line.equals("```")) {
                inside = false;
            } else if (inside) {
                example("README.md:" + (i + 1) + ": " + line, line);
            }
        }
        due("there are examples", examples > 0, true);
        due("the last example ends", inside, false);
    }

    private static void example(String where, String line) {
        Matcher made = NEW.matcher(line);
        if (made.matches()) {
            x = new MadeCalls(Integer.parseInt(made.group(1)));
            return;
        }
        Matcher call = CALL.matcher(line);
        if (!call.matches()) {
            due(where, "a line of another form", "a call and its answer");
            return;
        }
        if (x == null) {
            due(where, "no object yet", "an example begins with a new one");
            return;
        }
        shown.add(call.group(1));
        due(where, answerOf(call.group(1), call.group(2)), meaningOf(call.group(3)));
    }

    private static String answerOf(String name, String written) {
        String[] arguments = written.isEmpty() ? new String[0] : written.split(", ");
        Method method = methodOf(name, arguments.length);
        if (method == null) {
            return "no such method";
        }
        Object[] values = new Object[arguments.length];
        for (int i = 0; i < values.length; i++) {
            values[i] = valueOf(arguments[i], method.getParameterTypes()[i]);
            if (values[i] == null) {
                return "an argument of another form: " + arguments[i];
            }
        }
        try {
            return String.valueOf(method.invoke(x, values));
        } catch (InvocationTargetException e) {
            return "throws " + e.getCause().getClass().getSimpleName();
        } catch (IllegalAccessException e) {
            return "not public";
        }
    }

    private static Method methodOf(String name, int n) {
        for (Method m : MadeCalls.class.getDeclaredMethods()) {
            boolean open = Modifier.isPublic(m.getModifiers());
            if (open && m.getName().equals(name) && m.getParameterCount() == n) {
                return m;
            }
        }
        return null;
    }

    /** A number as Java would take it for a parameter; null: it would not. */
    private static Object valueOf(String written, Class<?> type) {
        if (type == int.class && INT.matcher(written).matches()) {
            return Integer.parseInt(written);
        }
        Matcher hex = LONG.matcher(written);
        if (type == long.class && hex.matches()) {
            return Long.parseUnsignedLong(hex.group(1).replace("_", ""), 16);
        }
        return null;
    }

    private static String meaningOf(String written) {
        switch (written) {
            case "NONE":
                return String.valueOf(MadeCalls.NONE);
            case "BAD":
                return String.valueOf(MadeCalls.BAD);
            case "FULL":
                return String.valueOf(MadeCalls.FULL);
            case "STATE":
                return String.valueOf(MadeCalls.STATE);
            default:
                return written;
        }
    }

    private static void everyMethodIsShown() {
        for (String name : face()) {
            due("an example shows " + name, shown.contains(name), true);
        }
    }

    private static void everyMethodIsInTheTable(List<String> lines) {
        Set<String> named = new HashSet<>();
        for (String line : lines) {
            if (line.startsWith("| `")) {
                Matcher name = NAME.matcher(line.substring(0, line.indexOf('|', 1)));
                while (name.find()) {
                    due("the table names it once: " + name.group(1), named.add(name.group(1)), true);
                }
            }
        }
        due("the table names the methods of the face", new TreeSet<>(named),
            new TreeSet<>(face()));
    }

    private static Set<String> face() {
        Set<String> names = new HashSet<>();
        for (Method m : MadeCalls.class.getDeclaredMethods()) {
            if (Modifier.isPublic(m.getModifiers())) {
                names.add(m.getName());
            }
        }
        return names;
    }

    /** How to run the tests, and each test there is, stands in README.md. */
    private static void testsAreNamed(List<String> lines) throws IOException {
        String text = String.join("\n", lines);
        due("it says how to run the tests", text.contains("\n    .ci/run\n"), true);
        due("what it says to run is there", Files.isExecutable(Path.of(".ci/run")), true);
        try (var tests = Files.newDirectoryStream(Path.of("src/test/java"), "*.java")) {
            for (Path test : tests) {
                String name = test.getFileName().toString().replace(".java", "");
                due("it names " + name, text.contains("\n- `" + name + "`: "), true);
            }
        }
    }

    private static void due(String what, Object got, Object want) {
        asked++;
        if (!got.equals(want)) {
            wrong++;
            System.out.println(what + " answered " + got + ", due is " + want);
        }
    }
}
