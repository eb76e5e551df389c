/**
 * Calls of routines that lie in a memory that they may change. A walker reads each instruction
 * as it comes to it; routines that were made ahead go by the steps that were read then, until a
 * page of theirs changes.
 */
public final class MadeCalls {
    public static final int NONE = -1, BAD = -2, FULL = -3, STATE = -4;

    private static final int BYTES = 1024, PAGES = 16, PAGE_BYTES = 64;
    private static final int LAST_ADDRESS = 1020, ADDRESSES = 256;
    private static final int CELLS = 8, MOST_ARGUMENTS = 4, BUILT_INS = 4, KEPT_AT_MOST = 20;
    private static final int MOST_DEEP = 12, MOST_STEPS = 400, MOST_FAULTS = 500;

    private static final int FAULT_PLACE = 1, FAULT_ZERO = 2, FAULT_NONE = 3, FAULT_DEEP = 4,
        FAULT_SPENT = 5, FAULT_THROWN = 6, FAULT_BAD = 7;

    private static final int COUNTS = 8, MADE = 0, DROPPED = 1, STEPS = 2, MADE_STEPS = 3,
        CALLS = 4, MADE_CALLS = 5, FAULTS = 6, CAUGHT = 7;

    private final int[] counts;
    private final int[] globals;
    private final int[] arguments;
    private final Shelf shelf;
    private final Memory memory;
    private final Runner runner;
    private int unmakable;

    public MadeCalls(int most) {
        counts = new int[COUNTS];
        globals = new int[CELLS];
        arguments = new int[MOST_ARGUMENTS];
        shelf = new Shelf(Math.max(0, Math.min(KEPT_AT_MOST, most)), counts);
        memory = new Memory(shelf);
        runner = new Runner(memory, shelf, globals, counts);
        unmakable = NONE;
    }

    public int poke(int place, int v) throws ArrayIndexOutOfBoundsException {
        if (!isPlace(place)) {
            throw new ArrayIndexOutOfBoundsException("no such byte");
        }
        int was = memory.bytes[place];
        memory.change(place, v);
        return was;
    }

    public int feed(int place, int n, long w) {
        if (n < 1 || n > 8 || place < 0 || place > BYTES - n) {
            return BAD;
        }
        int dropped = 0;
        for (int i = 0; i < n; i++) {
            dropped += memory.change(place + i, (int) (w >>> 8 * (n - 1 - i)));
        }
        return dropped;
    }

    public int peek(int place) throws ArrayIndexOutOfBoundsException {
        if (!isPlace(place)) {
            throw new ArrayIndexOutOfBoundsException("no such byte");
        }
        return memory.bytes[place];
    }

    public int global(int g, int v) throws ArrayIndexOutOfBoundsException {
        if (g < 0 || g >= CELLS) {
            throw new ArrayIndexOutOfBoundsException("no such global");
        }
        int was = globals[g];
        globals[g] = v;
        return was;
    }

    public int make(int address) {
        unmakable = NONE;
        if (!isAddress(address) || !memory.hasRoutine(address)) {
            return BAD;
        }
        Made draft = shelf.draft();
        unmakable = draft.readAhead(memory, address);
        if (unmakable != NONE) {
            return BAD;
        }
        if (shelf.find(address) != null) {
            return STATE;
        }
        if (shelf.most == 0) {
            return FULL;
        }
        shelf.keepDraft();
        return draft.size;
    }

    public int place() {
        return unmakable;
    }

    public int argument(int i, int v) {
        if (i < 0 || i >= MOST_ARGUMENTS) {
            return BAD;
        }
        arguments[i] = v;
        return 1;
    }

    public int call(int address, int n) {
        int refusal = refusalOf(address, n);
        return refusal != 0 ? refusal : runner.run(address, arguments, n, true);
    }

    public int walk(int address, int n) {
        int refusal = refusalOf(address, n);
        return refusal != 0 ? refusal : runner.run(address, arguments, n, false);
    }

    public int result() {
        return runner.outcome.value;
    }

    public int fault(int what) {
        Outcome outcome = runner.outcome;
        switch (what) {
            case 0:
                return outcome.address;
            case 1:
                return outcome.offset;
            case 2:
                return outcome.thrown;
            default:
                return BAD;
        }
    }

    public int accelerate(int address, int number) {
        if (!isAddress(address) || number < 0 || number > BUILT_INS) {
            return BAD;
        }
        int was = runner.builtIns[address / 4];
        runner.builtIns[address / 4] = number;
        return was;
    }

    public int kept(int i) {
        return shelf.addressOf(i);
    }

    public int drop(int page) {
        if (page < 0 || page >= PAGES) {
            return BAD;
        }
        return shelf.dropPage(page);
    }

    public int count(int what) {
        return what < 0 || what >= COUNTS ? BAD : counts[what];
    }

    private int refusalOf(int address, int n) {
        if (n < 0 || n > MOST_ARGUMENTS || !isAddress(address)) {
            return BAD;
        }
        return counts[FAULTS] >= MOST_FAULTS ? FULL : 0;
    }

    private static boolean isAddress(int address) {
        return address >= 0 && address <= LAST_ADDRESS && address % 4 == 0;
    }

    private static boolean isPlace(int place) {
        return place >= 0 && place < BYTES;
    }

    /** The codes of instructions, and how the bytes behind a code are judged. */
    private static final class Code {
        static final int RETURN = 0, SET = 1, ADD = 2, LESS = 3, TIMES = 4, OVER = 5, REST = 6,
            LOAD = 7, STORE = 8, JUMP = 9, IF_LESS = 10, IF_ALIKE = 11, CALL = 12, THROW = 13,
            CATCH = 14, END = 15;

        static final int LOCAL = 128, GLOBAL = 136, BEHIND_CELLS = 144;

        private static final int VALUE = 1, CELL = 2, OFFSET = 3, NUMBER = 4;
        private static final int FOUR_VALUES = 0x1111;

        /** For each code the kinds of its bytes, four bits each, the first one lowest. */
        private static final int[] FORMS = {
            0x1, 0x12, 0x112, 0x112, 0x112, 0x112, 0x112, 0x12, 0x11,
            0x3, 0x311, 0x311, 0x412, 0x1, 0x3, 0x0,
        };

        static boolean isCode(int b) {
            return b >= 0 && b <= END;
        }

        static int formOf(int code) {
            return isCode(code) ? FORMS[code] : 0;
        }

        /** The kinds that are left behind a byte: a number of values brings that many more. */
        static int formBehind(int form, int b) {
            return (form & 15) == NUMBER ? FOUR_VALUES >> 4 * (MOST_ARGUMENTS - b) : form >> 4;
        }

        static boolean fits(int form, int b, int locals) {
            switch (form & 15) {
                case VALUE:
                    return b < LOCAL || isCell(b, locals);
                case CELL:
                    return isCell(b, locals);
                case OFFSET:
                    return true;
                default:
                    return b <= MOST_ARGUMENTS;
            }
        }

        private static boolean isCell(int b, int locals) {
            return b >= LOCAL && b < LOCAL + locals || b >= GLOBAL && b < BEHIND_CELLS;
        }

        /** Which of an instruction's bytes is its t; 0: it has none. */
        static int columnOfOffset(int code) {
            switch (code) {
                case JUMP:
                case CATCH:
                    return 1;
                case IF_LESS:
                case IF_ALIKE:
                    return 3;
                default:
                    return 0;
            }
        }
    }

    /** How an instruction lies in an array once it was read: its bytes, then these columns. */
    private static final class Row {
        static final int PARTS = 8, LENGTH = 8, OFFSET = 9, TARGET = 10, WIDTH = 11;
    }

    private static final class Memory {
        final int[] bytes = new int[BYTES];
        private final Shelf shelf;

        Memory(Shelf shelf) {
            this.shelf = shelf;
        }

        boolean hasRoutine(int address) {
            return bytes[address] <= CELLS;
        }

        /** Answers how many were dropped by the change. */
        int change(int place, int v) {
            int b = v & 255;
            if (bytes[place] == b) {
                return 0;
            }
            bytes[place] = b;
            return shelf.dropPage(place / PAGE_BYTES);
        }

        /** Reads the instruction at a place into a row: 0, or the fault that came of it. */
        int read(int from, int locals, int[] rows, int base) {
            if (!isPlace(from)) {
                return FAULT_PLACE;
            }
            if (!Code.isCode(bytes[from])) {
                return FAULT_BAD;
            }
            rows[base] = bytes[from];
            int form = Code.formOf(bytes[from]);
            int length = 1;
            while (form != 0 && length < Row.PARTS) {
                if (!isPlace(from + length)) {
                    return FAULT_PLACE;
                }
                int b = bytes[from + length];
                if (!Code.fits(form, b, locals)) {
                    return FAULT_BAD;
                }
                rows[base + length] = b;
                form = Code.formBehind(form, b);
                length++;
            }
            rows[base + Row.LENGTH] = length;
            return 0;
        }
    }

    /** A routine as it was read when it was made: a row for each of its instructions. */
    private static final class Made {
        private static final int MOST_ROWS = 60;

        final int[] rows = new int[MOST_ROWS * Row.WIDTH];
        int size;
        int address;
        boolean isKept;
        private int firstPage;
        private int lastPage;

        /** Answers the offset of the first instruction that can't be made, or NONE. */
        int readAhead(Memory memory, int from) {
            address = from;
            size = 0;
            int offset = 1;
            for (int i = 0; i < MOST_ROWS; i++) {
                int base = i * Row.WIDTH;
                if (memory.read(from + offset, memory.bytes[from], rows, base) != 0) {
                    return offset;
                }
                rows[base + Row.OFFSET] = offset;
                if (rows[base] == Code.END) {
                    size = i + 1;
                    firstPage = from / PAGE_BYTES;
                    lastPage = (from + offset) / PAGE_BYTES;
                    return linkTargets();
                }
                offset += rows[base + Row.LENGTH];
            }
            return offset;
        }

        private int linkTargets() {
            for (int i = 0; i < size; i++) {
                int base = i * Row.WIDTH;
                int column = Code.columnOfOffset(rows[base]);
                if (column == 0) {
                    continue;
                }
                int t = rows[base + column];
                int target = indexOf(t);
                if (target == NONE && !(rows[base] == Code.CATCH && t == 0)) {
                    return rows[base + Row.OFFSET];
                }
                rows[base + Row.TARGET] = target;
            }
            return NONE;
        }

        private int indexOf(int offset) {
            for (int i = 0; i < size; i++) {
                if (rows[i * Row.WIDTH + Row.OFFSET] == offset) {
                    return i;
                }
            }
            return NONE;
        }

        boolean hasPage(int page) {
            return page >= firstPage && page <= lastPage;
        }
    }

    /**
     * The made ones that are kept, the one made first in front. One more than can be kept lies
     * behind them, so that a routine can be read before it is known whether it will be kept.
     */
    private static final class Shelf {
        final int most;
        private final Made[] all;
        private final int[] counts;
        private int size;

        Shelf(int most, int[] counts) {
            this.most = most;
            this.counts = counts;
            all = new Made[most + 1];
            for (int i = 0; i <= most; i++) {
                all[i] = new Made();
            }
        }

        Made draft() {
            return all[size];
        }

        void keepDraft() {
            if (size == most) {
                dropAt(0);
            }
            all[size].isKept = true;
            size++;
            counts[MADE]++;
        }

        Made find(int address) {
            for (int i = 0; i < size; i++) {
                if (all[i].address == address) {
                    return all[i];
                }
            }
            return null;
        }

        int addressOf(int i) {
            return i < 0 || i >= size ? NONE : all[i].address;
        }

        int dropPage(int page) {
            int dropped = 0;
            for (int i = size - 1; i >= 0; i--) {
                if (all[i].hasPage(page)) {
                    dropAt(i);
                    dropped++;
                }
            }
            return dropped;
        }

        /** What is dropped goes to the very end, so that a draft stays next behind the kept. */
        private void dropAt(int i) {
            Made dropped = all[i];
            for (int k = i; k < most; k++) {
                all[k] = all[k + 1];
            }
            all[most] = dropped;
            dropped.isKept = false;
            size--;
            counts[DROPPED]++;
        }
    }

    /** A routine that is under way. */
    private static final class Frame {
        final int[] locals = new int[CELLS];
        int has;
        int address;
        /** The offset of what comes next; kept up while it goes by a made one, too. */
        int next;
        Made made;
        int nextRow;
        int catchAt;
        int catchRow;
        /** Where the value of the call that it waits for goes. */
        int into;

        void open(int at, int howMany, int[] handed, int n) {
            address = at;
            has = howMany;
            for (int i = 0; i < CELLS; i++) {
                locals[i] = i < n && i < howMany ? handed[i] : 0;
            }
            next = 1;
            nextRow = 0;
            catchAt = 0;
            catchRow = NONE;
        }

        boolean goesByMade() {
            return made != null && made.isKept && nextRow >= 0 && nextRow < made.size;
        }
    }

    /** What came of the latest call that was not refused. */
    private static final class Outcome {
        int value;
        int fault;
        int address = NONE;
        int offset = NONE;
        int thrown;

        void clear() {
            value = 0;
            fault = 0;
            address = NONE;
            offset = NONE;
            thrown = 0;
        }
    }

    /** Carries out calls, by made ones where they are kept and wanted. */
    private static final class Runner {
        final Outcome outcome = new Outcome();
        final int[] builtIns = new int[ADDRESSES];
        private final Memory memory;
        private final Shelf shelf;
        private final int[] globals;
        private final int[] counts;
        private final Frame[] frames = new Frame[MOST_DEEP];
        private final int[] handed = new int[MOST_ARGUMENTS];
        private final int[] walked = new int[Row.WIDTH];
        private boolean usesMade;
        private int depth;
        private int steps;
        /** The instruction that is being done lies in these rows, from this index on. */
        private int[] rows = walked;
        private int base;
        /** Where a fault that comes now is told to have come. */
        private int atAddress;
        private int atOffset;

        Runner(Memory memory, Shelf shelf, int[] globals, int[] counts) {
            this.memory = memory;
            this.shelf = shelf;
            this.globals = globals;
            this.counts = counts;
            for (int i = 0; i < MOST_DEEP; i++) {
                frames[i] = new Frame();
            }
        }

        int run(int address, int[] arguments, int n, boolean byMade) {
            outcome.clear();
            usesMade = byMade;
            depth = 0;
            steps = 0;
            atAddress = address;
            atOffset = 0;
            for (int i = 0; i < n; i++) {
                handed[i] = arguments[i];
            }
            enter(address, n);
            // Each round makes a step, and the one beyond the last step is a fault.
            for (int round = 0; round <= MOST_STEPS && depth > 0; round++) {
                Frame frame = frames[depth - 1];
                if (fetch(frame)) {
                    carryOut(frame);
                }
            }
            return outcome.fault == 0 ? 0 : -10 - outcome.fault;
        }

        /** Calls an address (NONE: no address) with what is handed. */
        private void enter(int address, int n) {
            int builtIn = address == NONE ? 0 : builtIns[address / 4];
            if (builtIn != 0) {
                int value = valueOfBuiltIn(builtIn, n);
                if (outcome.fault == 0) {
                    give(value);
                }
                return;
            }
            if (depth >= MOST_DEEP) {
                fail(FAULT_DEEP);
                return;
            }
            if (address == NONE || !memory.hasRoutine(address)) {
                fail(FAULT_NONE);
                return;
            }
            Frame frame = frames[depth];
            depth++;
            frame.open(address, memory.bytes[address], handed, n);
            frame.made = usesMade ? shelf.find(address) : null;
            counts[CALLS]++;
            if (frame.made != null) {
                counts[MADE_CALLS]++;
            }
        }

        private int valueOfBuiltIn(int number, int n) {
            if (!spendStep()) {
                return 0;
            }
            switch (number) {
                case 1:
                    return sumOfHanded(n);
                case 2:
                    return greatestOfHanded(n);
                case 3:
                    return handedNotZero(n);
                default:
                    return byteAtFirstHanded(n);
            }
        }

        private int sumOfHanded(int n) {
            int sum = 0;
            for (int i = 0; i < n; i++) {
                sum += handed[i];
            }
            return sum;
        }

        private int greatestOfHanded(int n) {
            int greatest = n == 0 ? 0 : handed[0];
            for (int i = 1; i < n; i++) {
                greatest = Math.max(greatest, handed[i]);
            }
            return greatest;
        }

        private int handedNotZero(int n) {
            int many = 0;
            for (int i = 0; i < n; i++) {
                if (handed[i] != 0) {
                    many++;
                }
            }
            return many;
        }

        private int byteAtFirstHanded(int n) {
            if (n == 0 || !isPlace(handed[0])) {
                fail(FAULT_PLACE);
                return 0;
            }
            return memory.bytes[handed[0]];
        }

        private boolean spendStep() {
            if (steps >= MOST_STEPS) {
                fail(FAULT_SPENT);
                return false;
            }
            steps++;
            counts[STEPS]++;
            return true;
        }

        /** Begins the next instruction; false: a fault came. */
        private boolean fetch(Frame frame) {
            atAddress = frame.address;
            atOffset = frame.next;
            if (!spendStep()) {
                return false;
            }
            if (frame.goesByMade()) {
                counts[MADE_STEPS]++;
                rows = frame.made.rows;
                base = frame.nextRow * Row.WIDTH;
            } else {
                rows = walked;
                base = 0;
                int flaw = memory.read(frame.address + frame.next, frame.has, walked, 0);
                if (flaw != 0) {
                    fail(flaw);
                    return false;
                }
            }
            frame.next += rows[base + Row.LENGTH];
            frame.nextRow++;
            return true;
        }

        private void carryOut(Frame frame) {
            int code = rows[base];
            int first = rows[base + 1];
            int second = rows[base + 2];
            switch (code) {
                case Code.RETURN:
                    leave(valueOf(frame, first));
                    break;
                case Code.SET:
                    set(frame, first, valueOf(frame, second));
                    break;
                case Code.LOAD:
                    load(frame, first, valueOf(frame, second));
                    break;
                case Code.STORE:
                    store(valueOf(frame, first), valueOf(frame, second));
                    break;
                case Code.JUMP:
                    jump(frame, first);
                    break;
                case Code.IF_LESS:
                    if (valueOf(frame, first) < valueOf(frame, second)) {
                        jump(frame, rows[base + 3]);
                    }
                    break;
                case Code.IF_ALIKE:
                    if (valueOf(frame, first) == valueOf(frame, second)) {
                        jump(frame, rows[base + 3]);
                    }
                    break;
                case Code.CALL:
                    handOver(frame);
                    enter(addressFor(valueOf(frame, second)), rows[base + 3]);
                    break;
                case Code.THROW:
                    throwOut(valueOf(frame, first));
                    break;
                case Code.CATCH:
                    frame.catchAt = first;
                    frame.catchRow = rows[base + Row.TARGET];
                    break;
                case Code.END:
                    leave(0);
                    break;
                default:
                    reckon(frame, code, first);
                    break;
            }
        }

        /** The instructions of two values that give one: ADD up to REST. */
        private void reckon(Frame frame, int code, int cell) {
            int v = valueOf(frame, rows[base + 2]);
            int w = valueOf(frame, rows[base + 3]);
            if (w == 0 && (code == Code.OVER || code == Code.REST)) {
                fail(FAULT_ZERO);
                return;
            }
            switch (code) {
                case Code.ADD:
                    set(frame, cell, v + w);
                    break;
                case Code.LESS:
                    set(frame, cell, v - w);
                    break;
                case Code.TIMES:
                    set(frame, cell, v * w);
                    break;
                case Code.OVER:
                    set(frame, cell, w == -1 ? -v : v / w);
                    break;
                default:
                    set(frame, cell, w == -1 ? 0 : v % w);
                    break;
            }
        }

        private void load(Frame frame, int cell, int place) {
            if (!isPlace(place)) {
                fail(FAULT_PLACE);
                return;
            }
            set(frame, cell, memory.bytes[place]);
        }

        private void store(int place, int v) {
            if (!isPlace(place)) {
                fail(FAULT_PLACE);
                return;
            }
            memory.change(place, v);
        }

        private void jump(Frame frame, int offset) {
            frame.next = offset;
            frame.nextRow = rows[base + Row.TARGET];
        }

        private void handOver(Frame frame) {
            int n = rows[base + 3];
            for (int i = 0; i < n && i < MOST_ARGUMENTS; i++) {
                handed[i] = valueOf(frame, rows[base + 4 + i]);
            }
            frame.into = rows[base + 1];
        }

        /** v is looked at and not 4 v, which could wrap round to an address. */
        private static int addressFor(int v) {
            return v >= 0 && v < ADDRESSES ? 4 * v : NONE;
        }

        private void leave(int value) {
            depth--;
            give(value);
        }

        /** A call has this value: it goes to the routine that waits for it, if one does. */
        private void give(int value) {
            if (depth == 0) {
                outcome.value = value;
                return;
            }
            Frame waiting = frames[depth - 1];
            set(waiting, waiting.into, value);
        }

        /** The routine that throws is passed over: only what comes out of a call is caught. */
        private void throwOut(int number) {
            for (int i = depth - 2; i >= 0; i--) {
                Frame frame = frames[i];
                if (frame.catchAt != 0) {
                    depth = i + 1;
                    frame.next = frame.catchAt;
                    frame.nextRow = frame.catchRow;
                    globals[CELLS - 1] = number;
                    counts[CAUGHT]++;
                    return;
                }
            }
            outcome.thrown = number;
            fail(FAULT_THROWN);
        }

        private void fail(int fault) {
            outcome.fault = fault;
            outcome.address = atAddress;
            outcome.offset = atOffset;
            counts[FAULTS]++;
            depth = 0;
        }

        private int valueOf(Frame frame, int b) {
            if (b < Code.LOCAL) {
                return b;
            }
            return b < Code.GLOBAL ? frame.locals[indexOfCell(b)] : globals[indexOfCell(b)];
        }

        private void set(Frame frame, int cell, int value) {
            if (cell < Code.GLOBAL) {
                frame.locals[indexOfCell(cell)] = value;
            } else {
                globals[indexOfCell(cell)] = value;
            }
        }

        /** Locals and globals both begin at a multiple of CELLS, a power of two. */
        private static int indexOfCell(int b) {
            return b & (CELLS - 1);
        }
    }
}
