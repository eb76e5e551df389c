/** For each promise of the document: ordinary inputs, the edges that it names, wrong inputs. */
public final class PromisesTest {
    private static final int NONE = -1, BAD = -2, FULL = -3, STATE = -4;
    private static final int PLACE = -11, ZERO = -12, NO_ROUTINE = -13, DEEP = -14, SPENT = -15,
        THROWN = -16, BAD_CODE = -17;
    private static final int L0 = 128, L1 = 129, L2 = 130, L3 = 131, L7 = 135;
    private static final int G0 = 136, G1 = 137, G2 = 138, G7 = 143;
    private static final int RETURN = 0, SET = 1, ADD = 2, LESS = 3, TIMES = 4, OVER = 5, REST = 6,
        LOAD = 7, STORE = 8, JUMP = 9, IF_LESS = 10, IF_ALIKE = 11, CALL = 12, THROW = 13,
        CATCH = 14, END = 15;
    private static final int LEAST = Integer.MIN_VALUE;

    private static int wrong = 0;
    private static int asked = 0;
    private static String part = "";

    public static void main(String[] args) {
        newObject();
        poke();
        feed();
        peek();
        global();
        make();
        makeTargets();
        makeEdges();
        place();
        argument();
        call();
        callRefusals();
        instructions();
        judgingOfBytes();
        callInstruction();
        catching();
        deepAndSpent();
        walk();
        dropsUnderWay();
        result();
        fault();
        accelerate();
        accelerateFaults();
        kept();
        drop();
        count();
        System.out.println(asked + " answers, " + wrong + " not as due");
        if (wrong != 0) {
            System.exit(1);
        }
    }

    private static void newObject() {
        part = "1 a new object";
        // An object is used for at most 512 calls, so each half of the bytes has its own one.
        int sum = 0;
        for (int half = 0; half < 2; half++) {
            MadeCalls y = new MadeCalls(3);
            for (int i = 0; i < 512; i++) {
                sum += y.peek(512 * half + i);
            }
        }
        due("all bytes", sum, 0);
        MadeCalls x = new MadeCalls(3);
        for (int g = 0; g < 8; g++) {
            due("global", x.global(g, 0), 0);
        }
        due("kept", x.kept(0), NONE);
        due("place", x.place(), NONE);
        due("result", x.result(), 0);
        for (int what = 0; what < 8; what++) {
            due("count", x.count(what), 0);
        }
        due("keeps none", mostKept(0), 0);
        due("keeps none below 0", mostKept(-1), 0);
        due("keeps none at the least", mostKept(LEAST), 0);
        due("keeps 1", mostKept(1), 1);
        due("keeps 19", mostKept(19), 19);
        due("keeps 20", mostKept(20), 20);
        due("keeps 20 at 21", mostKept(21), 20);
        due("keeps 20 at the most", mostKept(Integer.MAX_VALUE), 20);
    }

    private static int mostKept(int most) {
        MadeCalls x = new MadeCalls(most);
        for (int i = 0; i < 25; i++) {
            x.poke(40 * i + 1, END);
        }
        for (int i = 0; i < 25; i++) {
            x.make(40 * i);
        }
        int n = 0;
        while (n < 100 && x.kept(n) != NONE) {
            n++;
        }
        return n;
    }

    private static void poke() {
        part = "2 poke";
        MadeCalls x = new MadeCalls(2);
        due("was 0", x.poke(0, 7), 0);
        due("was 7", x.poke(0, 0x1FF), 7);
        due("lowest 8 bits", x.poke(0, -2), 255);
        due("of a negative one", x.poke(0, 0), 254);
        due("the last byte", x.poke(1023, 9), 0);
        due("stays", x.peek(1023), 9);
        due("-1", pokeThrows(x, -1), 1);
        due("1024", pokeThrows(x, 1024), 1);
        due("least", pokeThrows(x, LEAST), 1);
        due("greatest", pokeThrows(x, Integer.MAX_VALUE), 1);
        x.poke(0, 0);
        x.poke(1, END);
        x.make(0);
        x.poke(63, 0);
        x.poke(1, END + 256);
        due("the same byte drops none", x.kept(0), 0);
        x.poke(64, 1);
        due("another page drops none", x.kept(0), 0);
        x.poke(63, 1);
        due("its page drops it", x.kept(0), NONE);
    }

    private static int pokeThrows(MadeCalls x, int place) {
        try {
            x.poke(place, 1);
        } catch (ArrayIndexOutOfBoundsException e) {
            return 1;
        }
        return 0;
    }

    private static void feed() {
        part = "3 feed";
        MadeCalls x = new MadeCalls(3);
        due("eight", x.feed(0, 8, 0x0102030405060708L), 0);
        for (int i = 0; i < 8; i++) {
            due("byte " + i, x.peek(i), i + 1);
        }
        due("its three lowest", x.feed(100, 3, 0x11223344AABBCCL), 0);
        due("the highest first", x.peek(100), 0xAA);
        due("second", x.peek(101), 0xBB);
        due("third", x.peek(102), 0xCC);
        due("none behind", x.peek(103), 0);
        due("none ahead", x.peek(99), 0);
        due("negative", x.feed(200, 8, -1L), 0);
        due("highest bits", x.peek(200), 255);
        due("one", x.feed(1023, 1, 5L), 0);
        due("at the end", x.peek(1023), 5);
        due("eight at the end", x.feed(1016, 8, 6L), 0);
        due("the last", x.peek(1023), 6);
        due("n 0", x.feed(0, 0, 0L), BAD);
        due("n 9", x.feed(0, 9, 0L), BAD);
        due("n -1", x.feed(0, -1, 0L), BAD);
        due("n least", x.feed(0, LEAST, 0L), BAD);
        due("n greatest", x.feed(0, Integer.MAX_VALUE, 0L), BAD);
        due("not so many", x.feed(1017, 8, 0L), BAD);
        due("not one", x.feed(1024, 1, 0L), BAD);
        due("before all", x.feed(-1, 2, 0L), BAD);
        due("least place", x.feed(LEAST, 8, 0L), BAD);
        due("greatest place", x.feed(Integer.MAX_VALUE, 8, 0L), BAD);
        due("refused ones change nothing", x.peek(0), 1);
        due("nor at the end", x.peek(1023), 6);

        MadeCalls y = new MadeCalls(3);
        y.poke(61, END);
        y.poke(65, END);
        y.poke(129, END);
        due("make 60", y.make(60), 1);
        due("make 64", y.make(64), 1);
        due("make 128", y.make(128), 1);
        due("the same bytes drop none", y.feed(60, 8, 0x000F0000000F0000L), 0);
        due("two pages", y.feed(60, 8, 0x000F0001000F0001L), 2);
        due("one is left", y.kept(0), 128);
        due("one of several bytes", y.feed(126, 4, 0x0000000EL), 1);
        due("count", y.count(1), 3);
    }

    private static void peek() {
        part = "4 peek";
        MadeCalls x = new MadeCalls(1);
        x.poke(5, 200);
        due("a byte", x.peek(5), 200);
        due("-1", peekThrows(x, -1), 1);
        due("1024", peekThrows(x, 1024), 1);
        due("least", peekThrows(x, LEAST), 1);
        due("greatest", peekThrows(x, Integer.MAX_VALUE), 1);
        due("1023", peekThrows(x, 1023), 0);
    }

    private static int peekThrows(MadeCalls x, int place) {
        try {
            x.peek(place);
        } catch (ArrayIndexOutOfBoundsException e) {
            return 1;
        }
        return 0;
    }

    private static void global() {
        part = "5 global";
        MadeCalls x = new MadeCalls(1);
        for (int g = 0; g < 8; g++) {
            due("was 0", x.global(g, LEAST + g), 0);
        }
        for (int g = 0; g < 8; g++) {
            due("was set", x.global(g, 0), LEAST + g);
        }
        due("-1", globalThrows(x, -1), 1);
        due("8", globalThrows(x, 8), 1);
        due("least", globalThrows(x, LEAST), 1);
        due("greatest", globalThrows(x, Integer.MAX_VALUE), 1);
    }

    private static int globalThrows(MadeCalls x, int g) {
        try {
            x.global(g, 1);
        } catch (ArrayIndexOutOfBoundsException e) {
            return 1;
        }
        return 0;
    }

    private static void make() {
        part = "6 make";
        MadeCalls x = new MadeCalls(2);
        write(x, 8, 1, SET, L0, 5, RETURN, L0, END);
        due("three", x.make(8), 3);
        due("kept", x.kept(0), 8);
        due("made", x.count(0), 1);
        due("again", x.make(8), STATE);
        due("no address", x.make(9), BAD);
        due("negative", x.make(-4), BAD);
        due("1024", x.make(1024), BAD);
        due("least", x.make(LEAST), BAD);
        write(x, 16, 9, END);
        due("no routine", x.make(16), BAD);
        write(x, 16, 8, END);
        due("eight locals (8 dropped: its page)", x.make(16), 1);
        due("only it", x.kept(0), 16);
        write(x, 128, 0, END);
        write(x, 192, 0, END);
        due("second", x.make(128), 1);
        due("third", x.make(192), 1);
        due("the first is dropped", x.kept(0), 128);
        due("the third is there", x.kept(1), 192);
        due("no more", x.kept(2), NONE);
        due("dropped", x.count(1), 2);
        due("made in all", x.count(0), 4);

        MadeCalls none = new MadeCalls(0);
        due("BAD ahead of FULL", none.make(0), BAD);
        write(none, 0, 0, END);
        due("FULL", none.make(0), FULL);
        due("nothing made", none.count(0), 0);

        part = "6 make: what can't be";
        due("code 16", placeOfMake(0, 0, RETURN, 0, 16, END), 3);
        due("what lies behind END does not count", placeOfMake(0, 0, SET, G0, 1, END, 16), NONE);
        due("a local it has not", placeOfMake(0, 2, SET, L1, 0, SET, L2, 0, END), 4);
        due("value 144", placeOfMake(0, 0, RETURN, 144, END), 1);
        due("cell 127", placeOfMake(0, 0, SET, 127, 0, END), 1);
        due("cell 144", placeOfMake(0, 0, SET, 144, 0, END), 1);
        due("n 5", placeOfMake(0, 0, RETURN, 0, CALL, G0, 0, 5, 0, 0, 0, 0, 0, END), 3);
        due("a value of the n", placeOfMake(0, 0, CALL, G0, 0, 2, 0, 255, END), 1);
        due("beyond memory", placeOfMake(1020, 0, RETURN, 0, SET), 3);
        due("no byte behind", placeOfMake(1020, 0, RETURN, 0, END), NONE);
        due("a value beyond memory", placeOfMake(1020, 0, RETURN, 0, RETURN), 3);
    }

    /** The place of a routine that can't be made; NONE: it is made, and kept. */
    private static int placeOfMake(int address, int... bytes) {
        MadeCalls x = new MadeCalls(2);
        write(x, address, bytes);
        int answer = x.make(address);
        due("BAD goes with a place", answer == BAD ? 1 : 0, x.place() == NONE ? 0 : 1);
        due("kept", x.kept(0), answer == BAD ? NONE : address);
        return x.place();
    }

    private static void makeTargets() {
        part = "6 make: offsets";
        due("jump to 1", placeOfMake(0, 0, JUMP, 1, END), NONE);
        due("jump to END", placeOfMake(0, 0, JUMP, 3, END), NONE);
        due("jump to 0", placeOfMake(0, 0, RETURN, 0, JUMP, 0, END), 3);
        due("jump between", placeOfMake(0, 0, JUMP, 2, END), 1);
        due("jump behind END", placeOfMake(0, 0, JUMP, 4, END, END), 1);
        due("if less", placeOfMake(0, 0, IF_LESS, 0, 1, 5, END), NONE);
        due("if less to 2", placeOfMake(0, 0, IF_LESS, 0, 1, 2, END), 1);
        due("if alike", placeOfMake(0, 0, RETURN, 0, IF_ALIKE, 0, 1, 1, END), NONE);
        due("if alike to 0", placeOfMake(0, 0, RETURN, 0, IF_ALIKE, 0, 1, 0, END), 3);
        due("catch 0", placeOfMake(0, 0, CATCH, 0, END), NONE);
        due("catch 3", placeOfMake(0, 0, CATCH, 3, END), NONE);
        due("catch 2", placeOfMake(0, 0, CATCH, 2, END), 1);
        due("the first wrong one", placeOfMake(0, 0, JUMP, 1, JUMP, 2, CATCH, 2, END), 3);
        due("what can't be read is ahead", placeOfMake(0, 0, JUMP, 2, 77, END), 3);
    }

    private static void makeEdges() {
        part = "6 make: 60 at most";
        due("60", makeMany(60), 60);
        due("61", makeMany(61), BAD);
        MadeCalls x = new MadeCalls(1);
        due("60 without END", x.make(0), BAD);
        due("the 61st", x.place(), 121);

        part = "6 make: pages";
        MadeCalls y = new MadeCalls(9);
        write(y, 60, 0, END);
        due("within page 0", y.make(60), 1);
        due("not page 1", y.drop(1), 0);
        due("page 0", y.drop(0), 1);
        write(y, 60, 0, RETURN, 0, END);
        due("END is the last byte of page 0", y.make(60), 2);
        due("not page 1", y.drop(1), 0);
        due("page 0", y.drop(0), 1);
        write(y, 60, 0, SET, G0, 1, END);
        due("END in page 1", y.make(60), 2);
        due("page 1", y.drop(1), 1);
        due("END in page 1, again", y.make(60), 2);
        due("page 0", y.drop(0), 1);
        MadeCalls z = new MadeCalls(1);
        for (int i = 0; i < 40; i++) {
            write(z, 1 + 8 * i, CALL, G0, 0, 4, 0, 0, 0, 0);
        }
        write(z, 321, END);
        due("41", z.make(0), 41);
        z.poke(150, 1);
        due("a page between", z.kept(0), NONE);
    }

    private static int makeMany(int n) {
        MadeCalls x = new MadeCalls(1);
        x.poke(1 + 2 * (n - 1), END);
        return x.make(0);
    }

    private static void place() {
        part = "7 place";
        MadeCalls x = new MadeCalls(1);
        due("none yet", x.place(), NONE);
        x.poke(3, 200);
        due("BAD", x.make(0), BAD);
        due("by an instruction", x.place(), 3);
        due("stays", x.place(), 3);
        due("no address", x.make(2), BAD);
        due("not by an instruction", x.place(), NONE);
        x.make(0);
        x.poke(8, 9);
        due("no routine", x.make(8), BAD);
        due("NONE of it", x.place(), NONE);
        x.poke(8, 0);
        x.make(0);
        due("again", x.place(), 3);
        x.poke(3, END);
        due("made", x.make(0), 2);
        due("NONE then", x.place(), NONE);
        x.make(200);
        due("another one is BAD", x.place(), 121);
        due("STATE", x.make(0), STATE);
        due("NONE of STATE", x.place(), NONE);
        MadeCalls y = new MadeCalls(0);
        y.make(0);
        due("the 61st", y.place(), 121);
        y.poke(1, END);
        due("FULL", y.make(0), FULL);
        due("NONE of FULL", y.place(), NONE);
    }

    private static void argument() {
        part = "8 argument";
        MadeCalls x = new MadeCalls(1);
        write(x, 0, 4, ADD, G0, L0, 0, ADD, G1, L1, 0, ADD, G2, L2, 0, RETURN, L3);
        x.call(0, 4);
        due("0 at first", x.result(), 0);
        for (int i = 0; i < 4; i++) {
            due("set", x.argument(i, 1000 + i), 1);
        }
        x.call(0, 4);
        due("first", x.global(0, 0), 1000);
        due("second", x.global(1, 0), 1001);
        due("third", x.global(2, 0), 1002);
        due("fourth", x.result(), 1003);
        due("-1", x.argument(-1, 1), BAD);
        due("4", x.argument(4, 1), BAD);
        due("least", x.argument(LEAST, 1), BAD);
        due("greatest", x.argument(Integer.MAX_VALUE, 1), BAD);
        x.call(0, 2);
        due("the first two", x.global(1, 0), 1001);
        due("others are 0", x.result(), 0);
        due("the third, too", x.global(2, 5), 0);
        x.poke(0, 1);
        write(x, 1, RETURN, L0);
        x.call(0, 4);
        due("as many as there are of both", x.result(), 1000);
    }

    private static void call() {
        part = "9 call";
        MadeCalls x = new MadeCalls(2);
        write(x, 1020, 0, RETURN, 9);
        due("the last address", x.call(1020, 0), 0);
        due("its value", x.result(), 9);
        write(x, 4, 8, SET, L7, 3, RETURN, L7);
        due("eight locals", x.call(4, 0), 0);
        due("value", x.result(), 3);
        x.poke(8, L7);
        x.poke(4, 7);
        due("seven locals", x.call(4, 0), BAD_CODE);
        x.poke(4, 9);
        due("no routine", x.call(4, 0), NO_ROUTINE);
        due("its address", x.fault(0), 4);
        due("offset 0", x.fault(1), 0);
        x.poke(4, 255);
        due("nor there", x.call(4, 0), NO_ROUTINE);

        part = "9 call: what was done stays";
        write(x, 64, 0, SET, G0, 5, STORE, 100, 6, OVER, G1, 1, 0);
        due("ZERO", x.call(64, 0), ZERO);
        due("the global", x.global(0, 0), 5);
        due("the byte", x.peek(100), 6);
        due("told", x.fault(1), 7);
    }

    private static void callRefusals() {
        part = "9 call: refusals";
        MadeCalls x = new MadeCalls(2);
        write(x, 4, 0, RETURN, 9);
        x.call(4, 0);
        due("n -1", x.call(0, -1), BAD);
        due("n 5", x.call(0, 5), BAD);
        due("n 4", x.call(0, 4), 0);
        x.call(4, 0);
        due("1", x.call(1, 0), BAD);
        due("-4", x.call(-4, 0), BAD);
        due("1024", x.call(1024, 0), BAD);
        due("least", x.call(LEAST, 0), BAD);
        due("walk 1", x.walk(1, 0), BAD);
        due("walk n 5", x.walk(0, 5), BAD);
        due("walk n -1", x.walk(0, -1), BAD);
        due("walk 1024", x.walk(1024, 0), BAD);
        due("refused ones leave the value", x.result(), 9);
        due("and are no faults", x.count(6), 0);
        MadeCalls y = new MadeCalls(2);
        y.poke(8, 9);
        for (int i = 0; i < 499; i++) {
            y.call(8, 0);
        }
        due("the 500th", y.walk(8, 0), NO_ROUTINE);
        due("faults", y.count(6), 500);
        due("then FULL", y.call(4, 0), FULL);
        due("walk, too", y.walk(4, 0), FULL);
        due("BAD ahead of it", y.call(4, 5), BAD);
        due("the fault stays told", y.fault(0), 8);
    }

    private static void instructions() {
        part = "9 call: instructions";
        due("return", value(RETURN, 127), 127);
        due("end", value(SET, G0, 1, END), 0);
        due("add", value(ADD, L0, L1, L2, RETURN, L0), 7 - 2);
        due("add wraps", reckon(ADD, Integer.MAX_VALUE, 1), LEAST);
        due("less", reckon(LESS, 3, 5), -2);
        due("less wraps", reckon(LESS, LEAST, 1), Integer.MAX_VALUE);
        due("times", reckon(TIMES, -3, 5), -15);
        due("times wraps", reckon(TIMES, 1 << 20, 1 << 12), 0);
        due("over", reckon(OVER, 7, 2), 3);
        due("over is cut toward 0", reckon(OVER, -7, 2), -3);
        due("over the least", reckon(OVER, LEAST, -1), LEAST);
        due("over -1", reckon(OVER, 9, -1), -9);
        due("over 0", reckon(OVER, 7, 0), ZERO);
        due("rest", reckon(REST, 7, 2), 1);
        due("rest of a negative one", reckon(REST, -7, 2), -1);
        due("rest of the least", reckon(REST, LEAST, -1), 0);
        due("rest by 0", reckon(REST, 7, 0), ZERO);
        due("load", value(LOAD, L0, 0, RETURN, L0), 8);
        due("load -2", value(LOAD, L0, L2, RETURN, L0), PLACE);
        due("store and load", value(STORE, 120, L2, LOAD, L0, 120, RETURN, L0), 254);
        due("store at -2", value(STORE, L2, 1, END), PLACE);
        due("load 1023", placed(LOAD, 1023), 0);
        due("load 1024", placed(LOAD, 1024), PLACE);
        due("store 1023", placed(STORE, 1023), 0);
        due("store 1024", placed(STORE, 1024), PLACE);
        due("jump", value(JUMP, 5, RETURN, 1, RETURN, 2), 2);
        // The count 8 is read as STORE 1 G0; RETURN 9 stands behind it.
        due("jump to 0, the count of locals", value(SET, G0, 0, JUMP, 0), JUMP);
        due("if less", value(IF_LESS, L2, 0, 7, RETURN, 1, RETURN, 2), 2);
        due("if less of alike ones", value(IF_LESS, 3, 3, 7, RETURN, 1, RETURN, 2), 1);
        due("if less of a greater", value(IF_LESS, 4, 3, 7, RETURN, 1, RETURN, 2), 1);
        due("if alike", value(IF_ALIKE, 3, 3, 7, RETURN, 1, RETURN, 2), 2);
        due("if alike of others", value(IF_ALIKE, 3, 4, 7, RETURN, 1, RETURN, 2), 1);
        due("the same cell on both sides", value(SET, L0, 3, TIMES, L0, L0, L0, RETURN, L0), 9);
        due("a throw", value(THROW, 5), THROWN);
        due("code 16", value(16), BAD_CODE);
        due("code 255", value(255), BAD_CODE);
    }

    /** The value of a routine with 8 locals (0, 7, -2), or the answer if it is a fault. */
    private static int value(int... bytes) {
        int walked = valueOf(false, bytes);
        due("a made one does as the walker", valueOf(true, bytes), walked);
        return walked;
    }

    private static int valueOf(boolean made, int... bytes) {
        MadeCalls x = new MadeCalls(1);
        x.poke(0, 8);
        write(x, 1, bytes);
        if (made) {
            x.poke(bytes.length + 1, END);
            x.make(0);
        }
        x.argument(1, 7);
        x.argument(2, -2);
        int answer = x.call(0, 3);
        return answer == 0 ? x.result() : answer;
    }

    private static int reckon(int code, int v, int w) {
        MadeCalls x = new MadeCalls(1);
        write(x, 0, 2, code, G0, L0, L1, RETURN, G0, END);
        x.argument(0, v);
        x.argument(1, w);
        int answer = x.walk(0, 2);
        int value = answer == 0 ? x.result() : answer;
        x.make(0);
        answer = x.call(0, 2);
        due("a made one reckons alike", answer == 0 ? x.result() : answer, value);
        return value;
    }

    private static int placed(int code, int place) {
        MadeCalls x = new MadeCalls(1);
        if (code == LOAD) {
            write(x, 0, 1, LOAD, G0, L0, END);
        } else {
            write(x, 0, 1, STORE, L0, 1, END);
        }
        x.argument(0, place);
        return x.call(0, 1);
    }

    private static void judgingOfBytes() {
        part = "9 call: bytes are judged as they are read";
        due("a BAD cell ahead of the end", faultAtEnd(6, SET, 200), BAD_CODE);
        due("the end", faultAtEnd(6, SET, G0), PLACE);
        due("the code itself is beyond", faultAtEnd(8, SET, G0, 1), PLACE);
        due("the n of CALL is beyond", faultAtEnd(5, CALL, G0, 5), PLACE);
        due("a value of CALL is beyond", faultAtEnd(4, CALL, G0, 5, 1), PLACE);
        due("BAD ahead of ZERO", value(OVER, G0, 1, 255), BAD_CODE);
        due("a local it has not", localOf(7, 135), BAD_CODE);
        due("a local it has", localOf(8, 135), 0);
        due("no locals", localOf(0, 128), BAD_CODE);
        due("a global", localOf(0, 136), 0);
        due("the last global", localOf(0, 143), 0);
        due("behind it", localOf(8, 144), BAD_CODE);
        due("n 4", value(CALL, G0, 60, 4, 1, 2, 3, 4, END), 0);
        due("n 5", value(CALL, G0, 60, 5, 1, 2, 3, 4, 5, END), BAD_CODE);
        due("a value of the n", value(CALL, G0, 60, 1, 144, END), BAD_CODE);

        part = "9 call: a count of locals that changes under way";
        MadeCalls x = new MadeCalls(1);
        write(x, 0, 1, STORE, 0, 0, SET, L0, 4, RETURN, L0);
        due("the former one counts", x.call(0, 0), 0);
        due("value", x.result(), 4);
        due("now it has none", x.call(0, 0), BAD_CODE);
        write(x, 0, 1, STORE, 0, 9, SET, L0, 5, RETURN, L0);
        due("no routine any more", x.call(0, 0), 0);
        due("value", x.result(), 5);
    }

    /** A routine at 1016 jumps to bytes that end with memory; the offset told must be this. */
    private static int faultAtEnd(int offset, int... bytes) {
        MadeCalls x = new MadeCalls(1);
        int from = 1024 - bytes.length;
        write(x, 1016, 0, JUMP, from - 1016);
        write(x, from, bytes);
        int answer = x.call(1016, 0);
        due("routine", x.fault(0), 1016);
        due("offset", x.fault(1), offset);
        return answer;
    }

    private static int localOf(int locals, int value) {
        MadeCalls x = new MadeCalls(1);
        write(x, 0, locals, RETURN, value);
        return x.walk(0, 0);
    }

    private static void callInstruction() {
        part = "9 call: CALL";
        MadeCalls x = new MadeCalls(3);
        write(x, 0, 2, CALL, L1, 16, 3, L0, 2, G0, RETURN, L1, END);
        write(x, 64, 2, ADD, L0, L0, L1, RETURN, L0, END);
        x.argument(0, 40);
        due("0", x.call(0, 1), 0);
        due("sum", x.result(), 42);
        due("calls", x.count(4), 2);
        due("steps", x.count(2), 4);
        x.make(64);
        x.call(0, 1);
        due("by a made one", x.count(5), 1);
        due("its steps", x.count(3), 2);
        due("value", x.result(), 42);

        x.poke(64, 9);
        due("no routine", x.call(0, 1), NO_ROUTINE);
        due("told: who calls", x.fault(0), 0);
        due("and where", x.fault(1), 1);

        part = "9 call: CALL of no address";
        write(x, 128, 1, SET, G0, 1, CALL, G1, L0, 0, RETURN, G1);
        write(x, 0, 0, RETURN, 7);
        due("4 v is 0", callWith(x, 0), 0);
        due("-1", callWith(x, -1), NO_ROUTINE);
        due("offset", x.fault(1), 4);
        due("routine", x.fault(0), 128);
        due("256", callWith(x, 256), NO_ROUTINE);
        due("255", callWith(x, 255), 0);
        due("4 v would wrap to 0", callWith(x, 1 << 30), NO_ROUTINE);
        due("so would this", callWith(x, LEAST), NO_ROUTINE);

        part = "9 call: values are taken when it is done";
        write(x, 192, 1, SET, L0, 3, CALL, L0, 64, 2, L0, L0, RETURN, L0);
        write(x, 256, 2, TIMES, L0, L0, L1, SET, L1, 0, RETURN, L0);
        x.call(192, 0);
        due("9", x.result(), 9);
        write(x, 192, 0, CALL, G0, 64, 0, RETURN, G0);
        write(x, 256, 0, SET, G0, 50, RETURN, 6);
        x.call(192, 0);
        due("the value comes last", x.result(), 6);
    }

    private static int callWith(MadeCalls x, int v) {
        x.argument(0, v);
        return x.call(128, 1);
    }

    private static void catching() {
        part = "9 call: CATCH";
        MadeCalls x = new MadeCalls(3);
        write(x, 0, 1, CATCH, 10, CALL, L0, 16, 0, RETURN, 1, 255, RETURN, G7, END);
        write(x, 64, 0, THROW, 33, END);
        due("caught", x.call(0, 0), 0);
        due("number", x.result(), 33);
        due("global 7", x.global(7, 0), 33);
        due("count", x.count(7), 1);
        due("no fault", x.count(6), 0);

        part = "9 call: its own throw is not caught";
        write(x, 128, 0, CATCH, 5, THROW, 9, RETURN, 1, END);
        due("thrown", x.call(128, 0), THROWN);
        due("number", x.fault(2), 9);
        due("routine", x.fault(0), 128);
        due("offset of the THROW", x.fault(1), 3);
        due("not caught", x.count(7), 1);
        due("global 7 is left", x.global(7, 0), 0);

        part = "9 call: a throw through one that does not catch";
        write(x, 0, 1, CATCH, 9, CALL, L0, 48, 0, RETURN, 1, RETURN, G7);
        write(x, 192, 0, CALL, G0, 16, 0, RETURN, 2);
        due("comes up", x.call(0, 0), 0);
        due("number", x.result(), 33);
        due("twice", x.count(7), 2);

        part = "9 call: CATCH 0";
        write(x, 0, 1, CATCH, 11, CATCH, 0, CALL, L0, 16, 0, RETURN, 1, RETURN, G7);
        due("no more", x.call(0, 0), THROWN);
        due("the THROW", x.fault(0), 64);
        due("its offset", x.fault(1), 1);
        due("number", x.fault(2), 33);

        part = "9 call: it stays";
        write(x, 0, 1, CATCH, 3, ADD, L0, L0, 1, IF_ALIKE, L0, 4, 15, CALL, G0, 16, 0);
        write(x, 15, RETURN, L0);
        due("caught again and again", x.call(0, 0), 0);
        due("three times", x.count(7), 5);
        due("the value", x.result(), 4);

        part = "9 call: faults are not caught";
        write(x, 64, 0, OVER, G0, 1, 0, END);
        due("ZERO", x.call(0, 0), ZERO);
        due("where", x.fault(0), 64);
        due("no number", x.fault(2), 0);

        part = "9 call: one catch a call";
        write(x, 64, 0, THROW, 1);
        write(x, 192, 0, CATCH, 8, CALL, G0, 16, 0, END, RETURN, 5);
        write(x, 0, 1, CALL, L0, 48, 0, CALL, L0, 16, 0, END);
        due("it ends with its routine", x.call(0, 0), THROWN);
        due("thrown by", x.fault(0), 64);
    }

    private static void deepAndSpent() {
        part = "9 call: DEEP";
        MadeCalls x = new MadeCalls(3);
        write(x, 0, 1, IF_ALIKE, L0, 0, 16, LESS, L0, L0, 1, CALL, L0, 0, 1, L0);
        write(x, 14, RETURN, L0, RETURN, 77);
        x.argument(0, 11);
        due("12 under way", x.call(0, 1), 0);
        due("value", x.result(), 77);
        x.argument(0, 12);
        due("13", x.call(0, 1), DEEP);
        due("the routine that calls", x.fault(0), 0);
        due("its offset", x.fault(1), 9);
        due("calls", x.count(4), 24);
        write(x, 0, 0, ADD, G0, G0, 1, IF_ALIKE, G0, 12, 14, CALL, G1, 0, 0, END);
        write(x, 14, CALL, G1, 127, 0);
        x.poke(508, 200);
        due("DEEP ahead of NONE", x.call(0, 0), DEEP);

        part = "9 call: SPENT";
        write(x, 64, 0, JUMP, 1);
        int before = x.count(2);
        due("spent", x.call(64, 0), SPENT);
        due("400", x.count(2) - before, 400);
        due("routine", x.fault(0), 64);
        due("offset", x.fault(1), 1);
        write(x, 128, 2, ADD, L0, L0, 1, IF_LESS, L0, L1, 1, END);
        x.argument(0, 0);
        x.argument(1, 199);
        due("399 steps", x.call(128, 2), 0);
        write(x, 128, 2, ADD, L0, L0, 1, IF_LESS, L0, L1, 1, JUMP, 11, END);
        due("400 steps", x.call(128, 2), 0);
        write(x, 128, 2, ADD, L0, L0, 1, IF_LESS, L0, L1, 1, JUMP, 11, JUMP, 13, END);
        due("401 steps", x.call(128, 2), SPENT);
        due("the one that would begin", x.fault(1), 13);
        due("each call has its own", x.call(64, 0), SPENT);
        write(x, 64, 0, ADD, G0, G0, 1, ADD, G0, G0, 1, JUMP, 1);
        x.global(0, 0);
        due("spent behind an ADD", x.call(64, 0), SPENT);
        due("which is done once", x.global(0, 0), 133 * 2 + 1);
    }

    private static void walk() {
        part = "10 walk";
        MadeCalls x = new MadeCalls(2);
        write(x, 0, 1, CALL, L0, 16, 1, L0, RETURN, L0, END);
        write(x, 64, 1, TIMES, L0, L0, 2, RETURN, L0, END);
        x.make(0);
        x.make(64);
        x.argument(0, 21);
        due("walk", x.walk(0, 1), 0);
        due("value", x.result(), 42);
        due("no made steps", x.count(3), 0);
        due("no made calls", x.count(5), 0);
        due("calls", x.count(4), 2);
        due("steps", x.count(2), 4);
        due("call", x.call(0, 1), 0);
        due("value again", x.result(), 42);
        due("made steps", x.count(3), 4);
        due("made calls", x.count(5), 2);
        due("still kept", x.kept(1), 64);
        x.accelerate(64, 3);
        x.walk(0, 1);
        due("accelerated ones, too", x.result(), 1);
        write(x, 256, 0, STORE, 70, 99, END);
        due("a walk", x.walk(256, 0), 0);
        due("drops", x.kept(1), NONE);
    }

    private static void dropsUnderWay() {
        part = "9 call: dropped under way";
        MadeCalls x = new MadeCalls(3);
        // The STORE makes the RETURN 1 behind it a RETURN 2.
        write(x, 0, 0, STORE, 5, 2, RETURN, 1, END);
        due("made", x.make(0), 3);
        due("call", x.call(0, 0), 0);
        due("what stands in memory", x.result(), 2);
        due("one made step", x.count(3), 1);
        due("two steps", x.count(2), 2);
        due("began made", x.count(5), 1);
        due("dropped", x.count(1), 1);
        due("made again", x.make(0), 3);
        due("call", x.call(0, 0), 0);
        due("nothing changes now", x.count(3), 3);
        due("kept", x.kept(0), 0);

        part = "9 call: one that waits is dropped";
        MadeCalls y = new MadeCalls(3);
        write(y, 0, 1, CALL, L0, 16, 0, RETURN, L0, END);
        write(y, 64, 0, STORE, 1, 127, STORE, 6, 77, RETURN, 5, END);
        y.make(0);
        y.make(64);
        due("call", y.call(0, 0), 0);
        due("behind its CALL it reads memory", y.result(), 77);
        due("the CALL and the other routine", y.count(3), 4);
        due("steps", y.count(2), 5);
        due("the other one is kept", y.kept(0), 64);

        part = "9 call: one that waits is dropped and catches";
        MadeCalls z = new MadeCalls(3);
        write(z, 0, 1, CATCH, 9, CALL, L0, 16, 0, RETURN, L0, RETURN, 1, END);
        write(z, 64, 0, STORE, 10, 78, THROW, 4, END);
        z.make(0);
        z.make(64);
        due("call", z.call(0, 0), 0);
        due("goes on at t by the walker", z.result(), 78);
        due("made steps", z.count(3), 4);
        due("all", z.count(2), 5);
        due("caught", z.count(7), 1);

        part = "9 call: a made one catches";
        MadeCalls m = new MadeCalls(3);
        write(m, 0, 1, CATCH, 9, CALL, L0, 16, 0, RETURN, L0, RETURN, G7, END);
        write(m, 64, 0, THROW, 4, END);
        m.make(0);
        due("call", m.call(0, 0), 0);
        due("number", m.result(), 4);
        due("made steps", m.count(3), 3);
        due("steps", m.count(2), 4);

        part = "9 call: a store that changes nothing";
        MadeCalls s = new MadeCalls(3);
        write(s, 0, 0, STORE, 2, 2, STORE, 64, 1, END);
        s.make(0);
        s.call(0, 0);
        due("kept", s.kept(0), 0);
        due("made steps", s.count(3), 3);
    }

    private static void result() {
        part = "11 result";
        MadeCalls x = new MadeCalls(1);
        due("none yet", x.result(), 0);
        write(x, 0, 1, RETURN, L0);
        x.argument(0, LEAST);
        x.call(0, 1);
        due("value", x.result(), LEAST);
        x.call(0, 9);
        due("refused ones do not count", x.result(), LEAST);
        x.walk(3, 0);
        due("nor here", x.result(), LEAST);
        x.argument(0, 8);
        x.walk(0, 1);
        due("of a walk", x.result(), 8);
        x.poke(1, 99);
        x.call(0, 1);
        due("a fault", x.result(), 0);
    }

    private static void fault() {
        part = "12 fault";
        MadeCalls x = new MadeCalls(1);
        due("none yet: address", x.fault(0), NONE);
        due("none yet: offset", x.fault(1), NONE);
        due("none yet: number", x.fault(2), 0);
        due("3", x.fault(3), BAD);
        due("-1", x.fault(-1), BAD);
        due("least", x.fault(LEAST), BAD);
        write(x, 4, 1, THROW, L0);
        x.argument(0, -5);
        due("thrown", x.call(4, 1), THROWN);
        due("address", x.fault(0), 4);
        due("offset", x.fault(1), 1);
        due("number", x.fault(2), -5);
        x.call(4, -1);
        due("stays behind a refused one", x.fault(2), -5);
        write(x, 8, 0, RETURN, 1);
        x.walk(8, 0);
        due("none: address", x.fault(0), NONE);
        due("none: offset", x.fault(1), NONE);
        due("none: number", x.fault(2), 0);
        x.walk(4, 1);
        x.poke(12, 44);
        x.walk(12, 0);
        due("another one: address", x.fault(0), 12);
        due("another one: offset", x.fault(1), 0);
        due("no number", x.fault(2), 0);
    }

    private static void accelerate() {
        part = "13 accelerate";
        MadeCalls x = new MadeCalls(1);
        due("was none", x.accelerate(1020, 4), 0);
        due("was 4", x.accelerate(1020, 1), 4);
        due("5", x.accelerate(1020, 5), BAD);
        due("-1", x.accelerate(1020, -1), BAD);
        due("no address", x.accelerate(1022, 1), BAD);
        due("negative", x.accelerate(-4, 1), BAD);
        due("1024", x.accelerate(1024, 1), BAD);
        due("least", x.accelerate(LEAST, 1), BAD);
        due("stays", x.accelerate(1020, 0), 1);
        due("not any more", x.accelerate(1020, 0), 0);
        x.argument(0, Integer.MAX_VALUE);
        x.argument(1, 2);
        x.argument(2, 0);
        x.argument(3, -9);
        due("sum", builtIn(x, 1, 2), LEAST + 1);
        due("sum of none", builtIn(x, 1, 0), 0);
        due("greatest", builtIn(x, 2, 4), Integer.MAX_VALUE);
        x.argument(0, -7);
        due("greatest of negative ones", builtIn(x, 2, 1), -7);
        due("greatest of none", builtIn(x, 2, 0), 0);
        due("not 0", builtIn(x, 3, 4), 3);
        due("not 0 of none", builtIn(x, 3, 0), 0);
        x.poke(1023, 66);
        x.argument(0, 1023);
        due("byte", builtIn(x, 4, 1), 66);
        due("steps", x.count(2), 8);
        due("no calls of routines", x.count(4), 0);
        x.poke(0, 99);
        x.accelerate(0, 1);
        due("whatever lies there", x.call(0, 1), 0);
        x.poke(0, 0);
        x.poke(1, END);
        x.make(0);
        due("ahead of a made one", x.call(0, 1), 0);
        due("value", x.result(), 1023);
        due("no made step", x.count(3), 0);
        due("no made call", x.count(5), 0);
        x.accelerate(0, 0);
        x.call(0, 1);
        due("the made one again", x.count(3), 1);
    }

    private static int builtIn(MadeCalls x, int number, int n) {
        x.accelerate(8, number);
        int answer = x.call(8, n);
        return answer == 0 ? x.result() : answer;
    }

    private static void accelerateFaults() {
        part = "13 accelerate: faults";
        MadeCalls x = new MadeCalls(1);
        due("without any", builtIn(x, 4, 0), PLACE);
        due("its address", x.fault(0), 8);
        due("0", x.fault(1), 0);
        x.argument(0, 1024);
        due("no byte", builtIn(x, 4, 1), PLACE);
        x.argument(0, -1);
        due("-1", builtIn(x, 4, 1), PLACE);
        due("each is a step", x.count(2), 3);

        part = "13 accelerate: called by a routine";
        write(x, 64, 1, SET, L0, 3, CALL, L0, 2, 2, L0, 4, RETURN, L0, END);
        x.accelerate(8, 1);
        x.make(64);
        due("call", x.call(64, 0), 0);
        due("sum", x.result(), 7);
        due("one step more", x.count(2), 3 + 4);
        due("which is no made one", x.count(3), 3);
        due("one call of a routine", x.count(4), 1);
        x.accelerate(8, 4);
        write(x, 64, 1, SET, L0, 3, CALL, L0, 2, 0, RETURN, L0, END);
        due("without any", x.call(64, 0), PLACE);
        due("who calls", x.fault(0), 64);
        due("where", x.fault(1), 4);
        x.accelerate(8, 1);

        part = "13 accelerate: DEEP is not asked";
        write(x, 128, 1, ADD, G0, G0, 1, IF_ALIKE, G0, 12, 14, CALL, L0, 32, 0, END);
        write(x, 128 + 14, CALL, L0, 2, 1, 55, SET, G1, L0, END);
        x.global(0, 0);
        due("12 under way", x.call(128, 0), 0);
        due("value", x.global(1, 0), 55);

        part = "13 accelerate: SPENT";
        // Three steps a round: of the 134th round the CALL is the 400th, what it calls is not.
        write(x, 192, 0, CALL, G0, 2, 0, JUMP, 1);
        int before = x.count(2);
        due("spent", x.call(192, 0), SPENT);
        due("who calls", x.fault(0), 192);
        due("where", x.fault(1), 1);
        due("400", x.count(2) - before, 400);
    }

    private static void kept() {
        part = "14 kept";
        MadeCalls x = new MadeCalls(3);
        due("none", x.kept(0), NONE);
        for (int i = 0; i < 5; i++) {
            x.poke(64 * i + 1, END);
        }
        x.make(128);
        x.make(0);
        x.make(256);
        due("as they were made", x.kept(0), 128);
        due("second", x.kept(1), 0);
        due("third", x.kept(2), 256);
        due("no fourth", x.kept(3), NONE);
        due("-1", x.kept(-1), NONE);
        due("least", x.kept(LEAST), NONE);
        due("greatest", x.kept(Integer.MAX_VALUE), NONE);
        x.make(64);
        due("the first was dropped", x.kept(0), 0);
        due("the new one is last", x.kept(2), 64);
        x.drop(4);
        due("from the middle", x.kept(1), 64);
        due("no third", x.kept(2), NONE);
        due("one behind the others", x.make(192), 1);
        due("it is last", x.kept(2), 192);
        due("again", x.make(256), 1);
        due("last", x.kept(2), 256);
        due("first", x.kept(0), 64);
    }

    private static void drop() {
        part = "15 drop";
        MadeCalls x = new MadeCalls(5);
        write(x, 0, 0, END);
        write(x, 8, 0, END);
        write(x, 960, 0, END);
        x.make(0);
        x.make(8);
        x.make(960);
        due("-1", x.drop(-1), BAD);
        due("16", x.drop(16), BAD);
        due("least", x.drop(LEAST), BAD);
        due("none there", x.drop(7), 0);
        due("two", x.drop(0), 2);
        due("gone", x.drop(0), 0);
        due("one is left", x.kept(0), 960);
        due("page 15", x.drop(15), 1);
        due("ever", x.count(1), 3);
        due("can be made again", x.make(0), 1);
    }

    private static void count() {
        part = "16 count";
        MadeCalls x = new MadeCalls(2);
        due("-1", x.count(-1), BAD);
        due("8", x.count(8), BAD);
        due("least", x.count(LEAST), BAD);
        write(x, 0, 0, CATCH, 7, CALL, G0, 16, 0, END);
        write(x, 64, 0, THROW, 4, END);
        x.make(64);
        due("call", x.call(0, 0), 0);
        due("catch goes to END", x.count(7), 1);
        x.drop(1);
        x.call(0, 0);
        x.call(64, 0);
        x.call(3, 0);
        due("made", x.count(0), 1);
        due("dropped", x.count(1), 1);
        due("steps", x.count(2), 4 + 4 + 1);
        due("made steps", x.count(3), 1);
        due("calls", x.count(4), 2 + 2 + 1);
        due("made calls", x.count(5), 1);
        due("faults", x.count(6), 1);
        due("caught", x.count(7), 2);
        x.poke(64, 9);
        x.call(0, 0);
        due("no call where there is no routine", x.count(4), 6);
        due("a fault", x.count(6), 2);
        x.poke(1, 200);
        x.call(0, 0);
        due("a BAD one has begun", x.count(2), 9 + 2 + 1);
    }

    private static void write(MadeCalls x, int place, int... bytes) {
        for (int i = 0; i < bytes.length; i++) {
            x.poke(place + i, bytes[i]);
        }
    }

    private static void due(String what, long got, long want) {
        asked++;
        if (got != want) {
            wrong++;
            System.out.println(part + ": " + what + " answered " + got + ", due is " + want);
        }
    }
}
