import java.lang.reflect.Constructor;
import java.lang.reflect.Field;
import java.lang.reflect.Method;
import java.lang.reflect.Modifier;
import java.util.HashSet;
import java.util.Set;
import java.util.TreeSet;

/** The public face as the document writes it, and what reaches a caller for any arguments. */
public final class FaceTest {
    private static final String[] FACE = {
        "int poke(int,int)", "int feed(int,int,long)", "int peek(int)", "int global(int,int)",
        "int make(int)", "int place()", "int argument(int,int)", "int call(int,int)",
        "int walk(int,int)", "int result()", "int fault(int)", "int accelerate(int,int)",
        "int kept(int)", "int drop(int)", "int count(int)",
    };
    private static final String[] CONSTANTS = {"NONE", "BAD", "FULL", "STATE"};
    private static final int[] EDGES = {
        Integer.MIN_VALUE, Integer.MIN_VALUE + 4, -1024, -5, -4, -2, -1, 0, 1, 2, 3, 4, 5, 7, 8, 9,
        15, 16, 19, 20, 21, 60, 63, 64, 127, 128, 255, 256, 1016, 1019, 1020, 1021, 1023, 1024,
        1028, 4096, 1 << 30, Integer.MAX_VALUE - 3, Integer.MAX_VALUE,
    };

    private static int wrong = 0;

    public static void main(String[] args) {
        methods();
        constructorsAndFields();
        nestedClasses();
        anyArguments();
        System.out.println("face: " + wrong + " not as due");
        if (wrong != 0) {
            System.exit(1);
        }
    }

    private static void methods() {
        Set<String> seen = new TreeSet<>();
        Set<String> names = new HashSet<>();
        for (Method m : MadeCalls.class.getDeclaredMethods()) {
            if (Modifier.isPublic(m.getModifiers())) {
                seen.add(signature(m));
                names.add(m.getName());
                boolean throwing = Set.of("poke", "peek", "global").contains(m.getName());
                due(m.getName() + " declares", m.getExceptionTypes().length, throwing ? 1 : 0);
            } else {
                due(m + " is private", Modifier.isPrivate(m.getModifiers()) ? 1 : 0, 1);
            }
        }
        due("the face", seen.equals(new TreeSet<>(Set.of(FACE))) ? 1 : 0, 1);
        for (Class<?> c : MadeCalls.class.getDeclaredClasses()) {
            for (Method m : c.getDeclaredMethods()) {
                boolean hidden = Modifier.isPrivate(m.getModifiers());
                boolean twice = hidden && names.contains(m.getName());
                due(m + " bears no name of the face", twice ? 1 : 0, 0);
            }
        }
        for (Method m : MadeCalls.class.getDeclaredMethods()) {
            boolean twice = !Modifier.isPublic(m.getModifiers()) && names.contains(m.getName());
            due(m + " bears no name of the face", twice ? 1 : 0, 0);
        }
    }

    private static String signature(Method m) {
        StringBuilder s = new StringBuilder(m.getReturnType().getName() + " " + m.getName() + "(");
        for (int i = 0; i < m.getParameterCount(); i++) {
            s.append(i == 0 ? "" : ",").append(m.getParameterTypes()[i].getName());
        }
        return s.append(")").toString();
    }

    private static void constructorsAndFields() {
        due("final", Modifier.isFinal(MadeCalls.class.getModifiers()) ? 1 : 0, 1);
        Constructor<?>[] made = MadeCalls.class.getDeclaredConstructors();
        due("one constructor", made.length, 1);
        due("public", Modifier.isPublic(made[0].getModifiers()) ? 1 : 0, 1);
        due("of one number", made[0].getParameterCount(), 1);
        Set<String> constants = Set.of(CONSTANTS);
        for (Field f : MadeCalls.class.getDeclaredFields()) {
            int kind = f.getModifiers();
            if (constants.contains(f.getName())) {
                due(f + " is public", Modifier.isPublic(kind) ? 1 : 0, 1);
            } else {
                due(f + " is private", Modifier.isPrivate(kind) ? 1 : 0, 1);
            }
            due(f + " is final if it is static", Modifier.isStatic(kind) && !Modifier.isFinal(kind) ? 1 : 0, 0);
        }
        due("NONE", MadeCalls.NONE, -1);
        due("BAD", MadeCalls.BAD, -2);
        due("FULL", MadeCalls.FULL, -3);
        due("STATE", MadeCalls.STATE, -4);
    }

    private static void nestedClasses() {
        for (Class<?> c : MadeCalls.class.getDeclaredClasses()) {
            int kind = c.getModifiers();
            due(c + " is static", Modifier.isStatic(kind) ? 1 : 0, 1);
            due(c + " is hidden", Modifier.isPublic(kind) || Modifier.isProtected(kind) ? 1 : 0, 0);
        }
    }

    /** Every method with every pair of edges, in memories of different contents. */
    private static void anyArguments() {
        for (int fill = 0; fill < 256; fill++) {
            for (int a : EDGES) {
                // A new object for each first number: it is used for at most 512 calls.
                MadeCalls x = filled(fill);
                for (int i = 0; i < 4; i++) {
                    x.argument(i, EDGES[(fill + 7 * i) % EDGES.length]);
                }
                oneNumber(x, a);
                for (int b : EDGES) {
                    twoNumbers(x, a, b);
                }
            }
        }
    }

    private static MadeCalls filled(int fill) {
        MadeCalls x = new MadeCalls(EDGES[fill % EDGES.length]);
        int mask = fill % 2 == 0 ? 15 : 143;
        for (int place = 0; place < 1024; place += 8) {
            long w = 0;
            for (int p = place; p < place + 8; p++) {
                w = w << 8 | (fill < 16 ? fill : p * fill + (p >> 3) & mask);
            }
            x.feed(place, 8, w);
        }
        return x;
    }

    private static void oneNumber(MadeCalls x, int a) {
        try {
            x.make(a);
            x.place();
            x.result();
            x.fault(a);
            x.kept(a);
            x.count(a);
            x.drop(a);
        } catch (RuntimeException e) {
            due("with " + a + " came " + e, 1, 0);
        }
        due("peek " + a, thrownBy(x, 0, a, 0), a < 0 || a > 1023 ? 1 : 0);
    }

    private static void twoNumbers(MadeCalls x, int a, int b) {
        try {
            x.argument(a, b);
            x.accelerate(a, b);
            x.feed(a, b, (long) a * b);
            x.make(a);
            x.call(a, b);
            x.walk(a, b);
        } catch (RuntimeException e) {
            due("with " + a + ", " + b + " came " + e, 1, 0);
        }
        due("poke " + a, thrownBy(x, 1, a, b), a < 0 || a > 1023 ? 1 : 0);
        due("global " + a, thrownBy(x, 2, a, b), a < 0 || a > 7 ? 1 : 0);
    }

    /** 1: the exception of the document; 2: the machine's own, whose text begins like this. */
    private static int thrownBy(MadeCalls x, int which, int a, int b) {
        try {
            if (which == 0) {
                x.peek(a);
            } else if (which == 1) {
                x.poke(a, b);
            } else {
                x.global(a, b);
            }
        } catch (ArrayIndexOutOfBoundsException e) {
            return e.getMessage() != null && e.getMessage().startsWith("Index ") ? 2 : 1;
        }
        return 0;
    }

    private static void due(String what, long got, long want) {
        if (got != want) {
            wrong++;
            if (wrong <= 20) {
                System.out.println(what + " answered " + got + ", due is " + want);
            }
        }
    }
}
