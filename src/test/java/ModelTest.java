import java.util.ArrayList;
import java.util.Arrays;
import java.util.List;

/**
 * Long runs of chance calls, the same ones in every run of this test: against a second model of
 * the document, written as plainly as it can be, and of made calls against walked ones.
 */
public final class ModelTest {
    private static final int RUNS = 20000, TWIN_RUNS = 4000;
    /** An object is used for at most so many calls; the last ones look at what was changed. */
    private static final int CALLS = 512, LOOKS = 60;
    /** So many calls one round may take: a routine of 62 instructions is written by 62. */
    private static final int DEAREST = 90;
    private static final int[] HOMES = {0, 40, 80, 120, 128, 200, 316, 508, 960, 1000, 1020};

    private static int wrong = 0;
    private static long seed = 20261116L;
    private static final int[] faultsSeen = new int[8];
    private static int caughtSeen = 0, droppedUnderWay = 0, madeStepsSeen = 0, refusedMakes = 0;

    public static void main(String[] args) {
        for (int run = 0; run < RUNS && wrong < 10; run++) {
            againstModel(run);
        }
        for (int run = 0; run < TWIN_RUNS && wrong < 10; run++) {
            madeAgainstWalked(run);
        }
        // Runs that never come to a fault or a drop would not test them.
        for (int kind = 1; kind <= 7; kind++) {
            due(-1, "fault " + kind + " was seen often", faultsSeen[kind] >= 100 ? 1 : 0, 1);
        }
        due(-1, "catches were seen often", caughtSeen >= 1000 ? 1 : 0, 1);
        due(-1, "drops under way were seen often", droppedUnderWay >= 1000 ? 1 : 0, 1);
        due(-1, "made steps were seen often", madeStepsSeen >= 100000 ? 1 : 0, 1);
        due(-1, "places of make were seen often", refusedMakes >= 1000 ? 1 : 0, 1);
        System.out.println("faults " + Arrays.toString(faultsSeen) + ", caught " + caughtSeen
            + ", dropped under way " + droppedUnderWay + ", made steps " + madeStepsSeen
            + ", places " + refusedMakes + "; " + wrong + " answers not as due");
        if (wrong != 0) {
            System.exit(1);
        }
    }

    private static void againstModel(int run) {
        int most = chance(24) - 2;
        Counted x = new Counted(most);
        Model m = new Model(most);
        for (int home : HOMES) {
            if (chance(5) != 0) {
                writeBoth(x, m, home, routine(home));
            }
        }
        while (x.used < CALLS - LOOKS - 16 - DEAREST && wrong < 10) {
            oneCall(run, x, m);
        }
        for (int what = 0; what < 8; what++) {
            due(run, "count " + what, x.count(what), m.counts[what]);
        }
        for (int g = 0; g < 8; g++) {
            due(run, "global " + g, x.global(g, 0), m.globals[g]);
        }
        for (int back = 1; back <= LOOKS && back <= m.changed.size(); back++) {
            int p = m.changed.get(m.changed.size() - back);
            due(run, "peek " + p, x.peek(p), m.bytes[p]);
        }
        due(run, "not used too often", x.used <= CALLS ? 1 : 0, 1);
        caughtSeen += m.counts[7];
        madeStepsSeen += m.counts[3];
    }

    private static void oneCall(int run, Counted x, Model m) {
        int a = chance(12) == 0 ? chance(1040) - 8 : HOMES[chance(HOMES.length)];
        int n = chance(20) == 0 ? chance(8) - 2 : chance(5);
        switch (chance(16)) {
            case 0: case 1: case 2: case 3: case 4: case 5: {
                boolean made = chance(4) != 0;
                if (chance(2) == 0) {
                    for (int h : HOMES) {
                        due(run, "make " + h, x.make(h), m.make(h));
                    }
                }
                int droppedBefore = m.counts[1];
                int answer = m.perform(a, n, made);
                due(run, "call " + a + " " + n, made ? x.call(a, n) : x.walk(a, n), answer);
                due(run, "result", x.result(), m.value);
                for (int what = 0; what < 3; what++) {
                    due(run, "fault " + what, x.fault(what), m.told(what));
                }
                int what = chance(8);
                due(run, "count " + what, x.count(what), m.counts[what]);
                if (answer < -10) {
                    faultsSeen[-10 - answer]++;
                }
                droppedUnderWay += m.counts[1] - droppedBefore;
                break;
            }
            case 6: case 7: case 8:
                due(run, "make " + a, x.make(a), m.make(a));
                due(run, "place", x.place(), m.place);
                refusedMakes += m.place >= 0 ? 1 : 0;
                break;
            case 9: {
                int v = chance(3) == 0 ? chance(256) : chance(16);
                due(run, "poke", x.poke(a & 1023, v), m.poke(a & 1023, v));
                break;
            }
            case 10: {
                long w = ((long) chance(1 << 30) << 34) ^ chance(1 << 30);
                int count = chance(3) == 0 ? chance(12) - 1 : 1;
                due(run, "feed", x.feed(a + 60, count, w), m.feed(a + 60, count, w));
                break;
            }
            case 11: {
                int g = chance(8), v = number();
                due(run, "global", x.global(g, v), m.globals[g]);
                m.globals[g] = v;
                break;
            }
            case 12: {
                int i = chance(6) - 1, v = number();
                due(run, "argument", x.argument(i, v), i < 0 || i > 3 ? -2 : 1);
                if (i >= 0 && i < 4) {
                    m.arguments[i] = v;
                }
                break;
            }
            case 13: {
                int by = chance(3) == 0 ? chance(7) - 1 : 0;
                due(run, "accelerate", x.accelerate(a, by), m.accelerate(a, by));
                break;
            }
            case 14: {
                int page = chance(20) - 2;
                due(run, "drop", x.drop(page), page < 0 || page > 15 ? -2 : m.dropPage(page));
                for (int i = -1; i <= m.kept.size(); i++) {
                    int due = i < 0 || i >= m.kept.size() ? -1 : m.kept.get(i).address;
                    due(run, "kept " + i, x.kept(i), due);
                }
                break;
            }
            default:
                writeBoth(x, m, a & 1020, routine(a & 1020));
                break;
        }
    }

    /** Of two that are alike one makes routines and calls, the other one walks. */
    private static void madeAgainstWalked(int run) {
        Counted made = new Counted(20);
        Counted walked = new Counted(0);
        for (int home : HOMES) {
            writeTwins(made, walked, home);
        }
        while (made.used < CALLS - LOOKS - 16 - DEAREST && wrong < 10) {
            int home = HOMES[chance(HOMES.length)];
            if (chance(6) == 0) {
                writeTwins(made, walked, home);
            }
            for (int h : HOMES) {
                made.make(h);
            }
            int which = chance(4), v = number(), n = chance(5);
            made.argument(which, v);
            walked.argument(which, v);
            due(run, "twin call " + home, made.call(home, n), walked.walk(home, n));
            due(run, "twin result", made.result(), walked.result());
            for (int what = 0; what < 3; what++) {
                due(run, "twin fault", made.fault(what), walked.fault(what));
            }
            for (int what : new int[] {2, 4, 7}) {
                due(run, "twin count " + what, made.count(what), walked.count(what));
            }
        }
        for (int g = 0; g < 8; g++) {
            due(run, "twin global", made.global(g, 0), walked.global(g, 0));
        }
        // All bytes would be more calls than an object is used for.
        for (int i = 0; i < LOOKS; i++) {
            int p = chance(2) == 0 ? chance(128) : chance(1024);
            due(run, "twin peek " + p, made.peek(p), walked.peek(p));
        }
        due(run, "not used too often", made.used <= CALLS && walked.used <= CALLS ? 1 : 0, 1);
    }

    private static void writeTwins(Counted made, Counted walked, int home) {
        int[] bytes = routine(home);
        made.write(home, bytes);
        walked.write(home, bytes);
    }

    private static void writeBoth(Counted x, Model m, int home, int[] bytes) {
        x.write(home, bytes);
        for (int k = 0; k < bytes.length && home + k < 1024; k++) {
            m.poke(home + k, bytes[k]);
        }
    }

    /** Instructions that mostly fit, with a few that do not. */
    private static int[] routine(int home) {
        List<Integer> out = new ArrayList<>();
        List<Integer> offsets = new ArrayList<>();
        List<Integer> targets = new ArrayList<>();
        int locals = chance(30) == 0 ? 9 : chance(9);
        out.add(locals);
        int many = chance(25) == 0 ? 58 + chance(5) : 1 + chance(9);
        for (int i = 0; i < many; i++) {
            offsets.add(out.size());
            int code = chance(60) == 0 ? 16 + chance(240) : chance(3) == 0 ? 12 : chance(15);
            if (code == 0 && chance(3) != 0) {
                code = 8;
            }
            out.add(code);
            if (code == 0 || code == 13) {
                out.add(value(locals));
            } else if (code == 1 || code == 7) {
                out.add(cell(locals));
                out.add(value(locals));
            } else if (code >= 2 && code <= 6) {
                out.add(cell(locals));
                out.add(value(locals));
                out.add(value(locals));
            } else if (code == 8) {
                out.add(chance(3) == 0 ? value(locals) : chance(128));
                out.add(value(locals));
            } else if (code == 9 || code == 14) {
                targets.add(out.size());
                out.add(0);
            } else if (code == 10 || code == 11) {
                out.add(value(locals));
                out.add(value(locals));
                targets.add(out.size());
                out.add(0);
            } else if (code == 12) {
                out.add(cell(locals));
                int to = HOMES[chance(HOMES.length)] / 4;
                out.add(to > 127 || chance(12) == 0 ? value(locals) : to);
                int n = chance(40) == 0 ? 5 : chance(5);
                out.add(n);
                for (int k = 0; k < n; k++) {
                    out.add(value(locals));
                }
            }
        }
        offsets.add(out.size());
        out.add(15);
        for (int at : targets) {
            int t = offsets.get(chance(offsets.size()));
            out.set(at, chance(25) == 0 ? chance(256) : chance(25) == 0 ? 0 : t & 255);
        }
        int[] bytes = new int[out.size()];
        for (int i = 0; i < bytes.length; i++) {
            bytes[i] = out.get(i);
        }
        return bytes;
    }

    private static int value(int locals) {
        switch (chance(12)) {
            case 0: case 1: case 2: case 3:
                return cell(locals);
            case 4: case 5: case 6: case 7:
                return chance(6);
            case 8:
                return chance(80) == 0 ? chance(256) : 1;
            default:
                return chance(128);
        }
    }

    private static int cell(int locals) {
        if (chance(60) == 0) {
            return chance(256);
        }
        return locals > 0 && locals < 9 && chance(3) != 0 ? 128 + chance(locals) : 136 + chance(8);
    }

    private static int number() {
        switch (chance(8)) {
            case 0:
                return Integer.MIN_VALUE + chance(2);
            case 1:
                return Integer.MAX_VALUE - chance(2);
            case 2:
                return -1 - chance(3);
            case 3:
                return chance(1 << 30) * 4;
            case 4:
                return 1020 + chance(8);
            default:
                return chance(256);
        }
    }

    private static int chance(int n) {
        seed = seed * 6364136223846793005L + 1442695040888963407L;
        return (int) ((seed >>> 33) % n);
    }

    private static void due(int run, String what, long got, long want) {
        if (got != want) {
            wrong++;
            System.out.println("run " + run + ": " + what + " answered " + got + ", due is " + want);
        }
    }

    /** An object of the class, with how often it was used. */
    private static final class Counted {
        private final MadeCalls x;
        int used = 0;

        Counted(int most) {
            x = new MadeCalls(most);
        }

        private MadeCalls use() {
            used++;
            return x;
        }

        int poke(int place, int v) {
            return use().poke(place, v);
        }

        int feed(int place, int n, long w) {
            return use().feed(place, n, w);
        }

        int peek(int place) {
            return use().peek(place);
        }

        int global(int g, int v) {
            return use().global(g, v);
        }

        int make(int address) {
            return use().make(address);
        }

        int place() {
            return use().place();
        }

        int argument(int i, int v) {
            return use().argument(i, v);
        }

        int call(int address, int n) {
            return use().call(address, n);
        }

        int walk(int address, int n) {
            return use().walk(address, n);
        }

        int result() {
            return use().result();
        }

        int fault(int what) {
            return use().fault(what);
        }

        int accelerate(int address, int number) {
            return use().accelerate(address, number);
        }

        int kept(int i) {
            return use().kept(i);
        }

        int drop(int page) {
            return use().drop(page);
        }

        int count(int what) {
            return use().count(what);
        }

        /** As many as there is room for, eight by one call. */
        void write(int place, int[] bytes) {
            int end = Math.min(bytes.length, 1024 - place);
            for (int from = 0; from < end; from += 8) {
                int n = Math.min(8, end - from);
                long w = 0;
                for (int i = 0; i < n; i++) {
                    w = w << 8 | bytes[from + i];
                }
                feed(place + from, n, w);
            }
        }
    }

    private static final class Fault extends RuntimeException {
        private static final long serialVersionUID = 1L;
        final int kind, address, offset, number;

        Fault(int kind, int address, int offset, int number) {
            super(null, null, false, false);
            this.kind = kind;
            this.address = address;
            this.offset = offset;
            this.number = number;
        }
    }

    private static final class Thrown extends RuntimeException {
        private static final long serialVersionUID = 1L;
        final int number, address, offset;

        Thrown(int number, int address, int offset) {
            super(null, null, false, false);
            this.number = number;
            this.address = address;
            this.offset = offset;
        }
    }

    /** A made routine is a copy of its bytes, read anew at each step. */
    private static final class Copy {
        int address, end;
        int[] bytes;
        boolean kept = true;
    }

    /** The document, with Java's own recursion for calls and Java's exceptions for faults. */
    private static final class Model {
        final int[] bytes = new int[1024], globals = new int[8], arguments = new int[4];
        final int[] counts = new int[8], builtIns = new int[256];
        final List<Copy> kept = new ArrayList<>();
        final List<Integer> changed = new ArrayList<>();
        final int most;
        int place = -1, value = 0, steps = 0;
        boolean byMade;
        Fault fault = null;

        Model(int most) {
            this.most = most < 0 ? 0 : most > 20 ? 20 : most;
        }

        int poke(int at, int v) {
            int was = bytes[at];
            put(at, v);
            return was;
        }

        int put(int at, int v) {
            if (bytes[at] == (v & 255)) {
                return 0;
            }
            bytes[at] = v & 255;
            changed.add(at);
            return dropPage(at / 64);
        }

        int feed(int at, int n, long w) {
            if (n < 1 || n > 8 || at < 0 || at + n > 1024) {
                return -2;
            }
            int dropped = 0;
            for (int i = n - 1; i >= 0; i--) {
                dropped += put(at + i, (int) (w & 255));
                w >>= 8;
            }
            return dropped;
        }

        int dropPage(int page) {
            int before = kept.size();
            for (Copy c : kept) {
                c.kept = !(c.address / 64 <= page && page <= c.end / 64);
            }
            kept.removeIf(c -> !c.kept);
            counts[1] += before - kept.size();
            return before - kept.size();
        }

        int accelerate(int a, int by) {
            if (!isAddress(a) || by < 0 || by > 4) {
                return -2;
            }
            int was = builtIns[a / 4];
            builtIns[a / 4] = by;
            return was;
        }

        boolean isAddress(long a) {
            return a >= 0 && a <= 1020 && a % 4 == 0;
        }

        int make(int a) {
            place = -1;
            if (!isAddress(a) || bytes[a] > 8) {
                return -2;
            }
            List<Integer> offsets = new ArrayList<>();
            List<int[]> read = new ArrayList<>();
            int offset = 1;
            while (true) {
                int[] instruction = null;
                try {
                    instruction = parse(bytes, 0, a, offset, bytes[a]);
                } catch (Fault f) {
                    place = offset;
                    return -2;
                }
                if (read.size() == 60) {
                    place = offset;
                    return -2;
                }
                offsets.add(offset);
                read.add(instruction);
                if (instruction[0] == 15) {
                    break;
                }
                offset += instruction.length;
            }
            for (int i = 0; i < read.size(); i++) {
                int[] b = read.get(i);
                boolean has = b[0] == 9 || b[0] == 10 || b[0] == 11 || b[0] == 14;
                int t = b[b.length - 1];
                if (has && !offsets.contains(t) && !(b[0] == 14 && t == 0)) {
                    place = offsets.get(i);
                    return -2;
                }
            }
            if (copyOf(a) != null) {
                return -4;
            }
            if (most == 0) {
                return -3;
            }
            if (kept.size() == most) {
                kept.remove(0).kept = false;
                counts[1]++;
            }
            Copy c = new Copy();
            c.address = a;
            c.end = a + offset;
            c.bytes = Arrays.copyOfRange(bytes, a, c.end + 1);
            kept.add(c);
            counts[0]++;
            return read.size();
        }

        Copy copyOf(int a) {
            for (Copy c : kept) {
                if (c.address == a) {
                    return c;
                }
            }
            return null;
        }

        int told(int what) {
            switch (what) {
                case 0: return fault == null ? -1 : fault.address;
                case 1: return fault == null ? -1 : fault.offset;
                case 2: return fault == null ? 0 : fault.number;
                default: return -2;
            }
        }

        int perform(int a, int n, boolean made) {
            if (n < 0 || n > 4 || !isAddress(a)) {
                return -2;
            }
            if (counts[6] >= 500) {
                return -3;
            }
            byMade = made;
            value = 0;
            steps = 0;
            fault = null;
            try {
                value = enter(a, Arrays.copyOf(arguments, n), 0, a, 0);
            } catch (Fault f) {
                fault = f;
            } catch (Thrown t) {
                fault = new Fault(6, t.address, t.offset, t.number);
            }
            if (fault == null) {
                return 0;
            }
            counts[6]++;
            return -10 - fault.kind;
        }

        /** Who calls, and where, is what a fault of the call itself is told of. */
        int enter(long a, int[] handed, int underWay, int who, int where) {
            if (isAddress(a) && builtIns[(int) a / 4] != 0) {
                step(who, where);
                return builtIn(builtIns[(int) a / 4], handed, who, where);
            }
            if (underWay == 12) {
                throw new Fault(4, who, where, 0);
            }
            if (!isAddress(a) || bytes[(int) a] > 8) {
                throw new Fault(3, who, where, 0);
            }
            counts[4]++;
            Copy copy = byMade ? copyOf((int) a) : null;
            if (copy != null) {
                counts[5]++;
            }
            int[] locals = Arrays.copyOf(handed, bytes[(int) a]);
            return go((int) a, locals, copy, underWay + 1);
        }

        int builtIn(int number, int[] handed, int who, int where) {
            if (number == 1) {
                return Arrays.stream(handed).sum();
            }
            if (number == 2) {
                return Arrays.stream(handed).max().orElse(0);
            }
            if (number == 3) {
                return (int) Arrays.stream(handed).filter(v -> v != 0).count();
            }
            if (handed.length == 0 || handed[0] < 0 || handed[0] > 1023) {
                throw new Fault(1, who, where, 0);
            }
            return bytes[handed[0]];
        }

        void step(int who, int where) {
            if (steps == 400) {
                throw new Fault(5, who, where, 0);
            }
            steps++;
            counts[2]++;
        }

        int go(int a, int[] locals, Copy copy, int underWay) {
            int offset = 1, catchAt = 0;
            while (true) {
                step(a, offset);
                boolean made = copy != null && copy.kept;
                if (made) {
                    counts[3]++;
                }
                int[] b = made ? parse(copy.bytes, a, a, offset, locals.length)
                    : parse(bytes, 0, a, offset, locals.length);
                int at = offset;
                offset += b.length;
                switch (b[0]) {
                    case 0: return get(locals, b[1]);
                    case 1: set(locals, b[1], get(locals, b[2])); break;
                    case 2: set(locals, b[1], get(locals, b[2]) + get(locals, b[3])); break;
                    case 3: set(locals, b[1], get(locals, b[2]) - get(locals, b[3])); break;
                    case 4: set(locals, b[1], get(locals, b[2]) * get(locals, b[3])); break;
                    case 5: case 6: {
                        long v = get(locals, b[2]), w = get(locals, b[3]);
                        if (w == 0) {
                            throw new Fault(2, a, at, 0);
                        }
                        set(locals, b[1], (int) (b[0] == 5 ? v / w : v % w));
                        break;
                    }
                    case 7: set(locals, b[1], bytes[placeOf(get(locals, b[2]), a, at)]); break;
                    case 8: put(placeOf(get(locals, b[1]), a, at), get(locals, b[2])); break;
                    case 9: offset = b[1]; break;
                    case 10: offset = get(locals, b[1]) < get(locals, b[2]) ? b[3] : offset; break;
                    case 11: offset = get(locals, b[1]) == get(locals, b[2]) ? b[3] : offset; break;
                    case 12: {
                        int[] handed = new int[b[3]];
                        for (int i = 0; i < b[3]; i++) {
                            handed[i] = get(locals, b[4 + i]);
                        }
                        try {
                            set(locals, b[1], enter(4L * get(locals, b[2]), handed, underWay, a, at));
                        } catch (Thrown t) {
                            if (catchAt == 0) {
                                throw t;
                            }
                            counts[7]++;
                            globals[7] = t.number;
                            offset = catchAt;
                        }
                        break;
                    }
                    case 13: throw new Thrown(get(locals, b[1]), a, at);
                    case 14: catchAt = b[1]; break;
                    default: return 0;
                }
            }
        }

        int placeOf(int v, int a, int at) {
            if (v < 0 || v > 1023) {
                throw new Fault(1, a, at, 0);
            }
            return v;
        }

        int get(int[] locals, int b) {
            return b < 128 ? b : b < 136 ? locals[b - 128] : globals[b - 136];
        }

        void set(int[] locals, int d, int v) {
            if (d < 136) {
                locals[d - 128] = v;
            } else {
                globals[d - 136] = v;
            }
        }

        /** The bytes of an instruction, out of what lies from a first place on. */
        int[] parse(int[] from, int first, int a, int offset, int locals) {
            String[] forms = {"v", "dv", "dvv", "dvv", "dvv", "dvv", "dvv", "dv", "vv",
                "t", "vvt", "vvt", "dvn", "v", "t", ""};
            int code = byteAt(from, first, a, offset, 0);
            if (code > 15) {
                throw new Fault(7, a, offset, 0);
            }
            String form = forms[code];
            List<Integer> out = new ArrayList<>();
            out.add(code);
            for (int i = 0; i < form.length(); i++) {
                int b = byteAt(from, first, a, offset, i + 1);
                boolean cell = b >= 128 && b < 128 + locals || b >= 136 && b <= 143;
                char kind = form.charAt(i);
                boolean fits = kind == 't' || kind == 'n' && b <= 4 || kind == 'd' && cell
                    || kind == 'v' && (b < 128 || cell);
                if (!fits) {
                    throw new Fault(7, a, offset, 0);
                }
                if (kind == 'n') {
                    form += "v".repeat(b);
                }
                out.add(b);
            }
            return out.stream().mapToInt(Integer::intValue).toArray();
        }

        int byteAt(int[] from, int first, int a, int offset, int i) {
            if (a + offset + i > 1023) {
                throw new Fault(1, a, offset, 0);
            }
            return from[a + offset + i - first];
        }
    }
}
