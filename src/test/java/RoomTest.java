import java.lang.reflect.Array;
import java.lang.reflect.Field;
import java.lang.reflect.Modifier;
import java.util.ArrayDeque;
import java.util.Collections;
import java.util.Deque;
import java.util.IdentityHashMap;
import java.util.Random;
import java.util.Set;

/**
 * An object holds what its constructor made, and nothing else ever: so however many calls a run
 * has, the room that it takes is known beforehand.
 */
public final class RoomTest {
    /** Small beside the 600,000 objects and 7.3 million fields and elements that all share. */
    private static final int MOST_OBJECTS = 200, MOST_FIELDS = 20_000;
    private static final int CALLS = 500;

    private static int wrong = 0;

    public static void main(String[] args) throws IllegalAccessException {
        for (int most : new int[] {Integer.MIN_VALUE, 0, 1, 20, Integer.MAX_VALUE}) {
            for (int seed = 0; seed < 20; seed++) {
                MadeCalls x = new MadeCalls(most);
                Set<Object> before = heldBy(x);
                use(x, new Random(seed));
                Set<Object> after = heldBy(x);
                due("MOST " + most + ": the same objects as at first",
                    after.equals(before) ? 1 : 0, 1);
                due("MOST " + most + ": few objects", before.size() <= MOST_OBJECTS ? 1 : 0, 1);
                due("MOST " + most + ": few fields", fieldsOf(before) <= MOST_FIELDS ? 1 : 0, 1);
            }
        }
        Set<Object> all = heldBy(new MadeCalls(20));
        System.out.println("room: " + all.size() + " objects, " + fieldsOf(all)
            + " fields and elements at most; " + wrong + " not as due");
        if (wrong != 0) {
            System.exit(1);
        }
    }

    /** Calls of all methods, on memories in which many routines can be made and done. */
    private static void use(MadeCalls x, Random random) {
        for (int i = 0; i < CALLS; i++) {
            int address = 4 * random.nextInt(256);
            switch (random.nextInt(8)) {
                case 0:
                    x.make(address);
                    break;
                case 1:
                    x.call(address, random.nextInt(5));
                    break;
                case 2:
                    x.walk(address, random.nextInt(5));
                    break;
                case 3:
                    x.accelerate(address, random.nextInt(5));
                    break;
                case 4:
                    x.argument(random.nextInt(4), random.nextInt());
                    break;
                case 5:
                    x.drop(random.nextInt(16));
                    break;
                default:
                    x.feed(address, 4, random.nextLong() & 0x008F8F0FL | 0x0FL);
                    break;
            }
        }
    }

    private static Set<Object> heldBy(Object root) throws IllegalAccessException {
        Set<Object> seen = Collections.newSetFromMap(new IdentityHashMap<>());
        Deque<Object> open = new ArrayDeque<>();
        open.add(root);
        while (!open.isEmpty()) {
            Object next = open.remove();
            if (!seen.add(next)) {
                continue;
            }
            if (next instanceof Object[] row) {
                for (Object part : row) {
                    addTo(open, part);
                }
            } else if (!next.getClass().isArray()) {
                for (Field f : next.getClass().getDeclaredFields()) {
                    if (!Modifier.isStatic(f.getModifiers()) && !f.getType().isPrimitive()) {
                        f.setAccessible(true);
                        addTo(open, f.get(next));
                    }
                }
            }
        }
        return seen;
    }

    private static void addTo(Deque<Object> open, Object part) {
        if (part != null) {
            open.add(part);
        }
    }

    private static int fieldsOf(Set<Object> objects) {
        int fields = 0;
        for (Object o : objects) {
            if (o.getClass().isArray()) {
                fields += Array.getLength(o);
            } else {
                fields += o.getClass().getDeclaredFields().length;
            }
        }
        return fields;
    }

    private static void due(String what, long got, long want) {
        if (got != want) {
            wrong++;
            System.out.println(what + " answered " + got + ", due is " + want);
        }
    }
}
