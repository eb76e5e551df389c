import java.io.IOException;
import java.lang.reflect.Executable;
import java.lang.reflect.Field;
import java.lang.reflect.Modifier;
import java.nio.charset.StandardCharsets;
import java.nio.file.Files;
import java.nio.file.Path;
import java.util.ArrayList;
import java.util.List;
import java.util.Set;
import java.util.TreeSet;
import java.util.regex.Matcher;
import java.util.regex.Pattern;

/**
 * The rules of LANGUAGE.md that can be looked up in the text of the program or in its classes.
 * It asks for less than the rules leave: what the program has no need of is not let in at all.
 */
public final class LanguageTest {
    private static final Path PROGRAM = Path.of("src/main/java/MadeCalls.java");
    private static final Set<String> TYPES = Set.of("ArrayIndexOutOfBoundsException", "Math");
    private static final Set<String> OF_MATH = Set.of("max", "min");
    private static final String[] WORDS_NOT_USED = {
        "import", "package", "try", "catch", "finally", "synchronized", "assert", "instanceof",
        "volatile", "native", "double", "float", "var", "yield", "goto",
    };
    private static final int MOST_LINES = 60, MOST_PARAMETERS = 7, MOST_CLASSES = 12,
        MOST_FIELDS = 20;

    private static int wrong = 0;
    private static int asked = 0;

    public static void main(String[] args) throws IOException {
        String text = Files.readString(PROGRAM, StandardCharsets.UTF_8);
        String code = withoutCommentsAndTexts(text);
        words(code);
        types(code);
        exceptions(code);
        loops(code);
        lengths(code);
        classes();
        System.out.println("language: " + asked + " asked, " + wrong + " not as due");
        if (wrong != 0) {
            System.exit(1);
        }
    }

    private static String withoutCommentsAndTexts(String text) {
        // A comment keeps its line ends, so that lines can still be counted.
        Matcher m = Pattern.compile("\"[^\"\\n]*\"|//[^\\n]*|/\\*.*?\\*/", Pattern.DOTALL)
            .matcher(text);
        return m.replaceAll(r -> r.group().startsWith("\"") ? "\"\""
            : r.group().replaceAll("[^\\n]", ""));
    }

    /** Rules 2, 4, 6. */
    private static void words(String code) {
        for (String word : WORDS_NOT_USED) {
            due("no " + word, found(code, "\\b" + word + "\\b"), 0);
        }
        due("no lambda", found(code, "->"), 0);
        due("no method reference", found(code, "::"), 0);
        due("no static block", found(code, "\\bstatic\\s*\\{"), 0);
        due("no text joined by +", found(code, "\"\"\\s*\\+|\\+\\s*\"\""), 0);
        due("no division but by a constant or behind a test",
            found(code, "[/%] (?!4\\b|PAGE_BYTES\\b|w\\b)"), 0);
    }

    /** Rules 3 and 4: a name with a capital and small letters is a class. */
    private static void types(String code) {
        Set<String> known = new TreeSet<>(TYPES);
        known.add("MadeCalls");
        for (Class<?> c : MadeCalls.class.getDeclaredClasses()) {
            known.add(c.getSimpleName());
        }
        Matcher m = Pattern.compile("\\b[A-Z]\\w*[a-z]\\w*\\b").matcher(code);
        while (m.find()) {
            due("the class " + m.group(), known.contains(m.group()) ? 1 : 0, 1);
        }
        Matcher math = Pattern.compile("\\bMath\\.(\\w+)").matcher(code);
        while (math.find()) {
            due("Math." + math.group(1), OF_MATH.contains(math.group(1)) ? 1 : 0, 1);
        }
    }

    /** Rule 6, with the one exception that the document names: by a throw with a written text. */
    private static void exceptions(String code) {
        int written = found(code, "\\bthrow new ArrayIndexOutOfBoundsException\\(\"\"\\);");
        due("throws by that form alone", found(code, "\\bthrow\\b"), written);
        due("poke, peek and global throw", written, 3);
    }

    /** Rule 9, as far as it can be seen from a loop's head: it compares something. */
    private static void loops(String code) {
        due("no do", found(code, "\\bdo\\b"), 0);
        Matcher m = Pattern.compile("\\b(for|while) \\(([^{]*)\\) \\{").matcher(code);
        int heads = 0;
        while (m.find()) {
            heads++;
            String head = m.group(2);
            String asks = m.group(1).equals("for") ? partOf(head, 1) : head;
            due("a bound in: " + head, found(asks, "[<>]") > 0 ? 1 : 0, 1);
        }
        due("all loops were seen", heads, found(code, "\\b(for|while)\\b"));
    }

    private static String partOf(String head, int i) {
        String[] parts = head.split(";");
        return i < parts.length ? parts[i] : "";
    }

    /** Rule 11: a method begins at an indented head with parameters and ends with its brace. */
    private static void lengths(String code) {
        List<String> lines = new ArrayList<>(List.of(code.split("\n", -1)));
        Pattern head = Pattern.compile(
            "( +)(?:public |private |static |final )*(?:[\\w\\[\\]]+ )?\\w+\\([^()]*\\)[^;=()]*\\{");
        int methods = 0;
        for (int i = 0; i < lines.size(); i++) {
            Matcher m = head.matcher(lines.get(i));
            if (m.matches() && !lines.get(i).trim().matches("(if|for|while|switch|\\}).*")) {
                methods++;
                int end = lines.subList(i, lines.size()).indexOf(m.group(1) + "}");
                due("the end of " + lines.get(i).trim(), end > 0 ? 1 : 0, 1);
                due("the length of " + lines.get(i).trim(), end <= MOST_LINES ? 1 : 0, 1);
            }
        }
        due("all methods were seen", methods, executables());
    }

    private static int executables() {
        int n = declared(MadeCalls.class).size();
        for (Class<?> c : MadeCalls.class.getDeclaredClasses()) {
            n += declared(c).size();
        }
        return n;
    }

    /** Methods and constructors; those that are not written are left out. */
    private static List<Executable> declared(Class<?> c) {
        List<Executable> all = new ArrayList<>(List.of(c.getDeclaredMethods()));
        for (Executable e : c.getDeclaredConstructors()) {
            if (e.getParameterCount() > 0) {
                all.add(e);
            }
        }
        all.removeIf(Executable::isSynthetic);
        return all;
    }

    /** Rules 1, 2, 5 and 11. */
    private static void classes() {
        Class<?>[] inside = MadeCalls.class.getDeclaredClasses();
        due("few classes", inside.length + 1 <= MOST_CLASSES ? 1 : 0, 1);
        fieldsAndParameters(MadeCalls.class);
        for (Class<?> c : inside) {
            fieldsAndParameters(c);
            due("no class inside " + c, c.getDeclaredClasses().length, 0);
        }
    }

    private static void fieldsAndParameters(Class<?> c) {
        int fields = 0;
        for (Field f : c.getDeclaredFields()) {
            boolean shared = Modifier.isStatic(f.getModifiers());
            fields += shared ? 0 : 1;
            due(f + " is final if it is shared",
                shared && !Modifier.isFinal(f.getModifiers()) ? 1 : 0, 0);
            boolean constant = f.getType() == int.class || f.getType() == int[].class;
            due(f + " is a constant if it is shared", shared && !constant ? 1 : 0, 0);
        }
        due("few fields in " + c, fields <= MOST_FIELDS ? 1 : 0, 1);
        for (Executable e : declared(c)) {
            due("few parameters of " + e, e.getParameterCount() <= MOST_PARAMETERS ? 1 : 0, 1);
        }
    }

    private static int found(String text, String form) {
        Matcher m = Pattern.compile(form).matcher(text);
        int n = 0;
        while (m.find()) {
            n++;
        }
        return n;
    }

    private static void due(String what, long got, long want) {
        asked++;
        if (got != want) {
            wrong++;
            System.out.println(what + " answered " + got + ", due is " + want);
        }
    }
}
