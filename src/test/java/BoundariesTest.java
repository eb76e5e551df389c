/**
 * Each sentence of the document that names a boundary has a test of its own here: a method that
 * begins with the sentence's words. What a routine does is asked of the walker and of a made one.
 */
public final class BoundariesTest {
    private static final int NONE = -1, BAD = -2, FULL = -3, STATE = -4;
    private static final int PLACE = -11, ZERO = -12, NO_ROUTINE = -13, DEEP = -14, SPENT = -15,
        THROWN = -16, BAD_CODE = -17;
    private static final int L0 = 128, L1 = 129, L2 = 130, L3 = 131, L7 = 135;
    private static final int G0 = 136, G1 = 137, G2 = 138, G7 = 143;
    private static final int RETURN = 0, SET = 1, ADD = 2, LESS = 3, TIMES = 4, OVER = 5, REST = 6,
        LOAD = 7, STORE = 8, JUMP = 9, IF_LESS = 10, IF_ALIKE = 11, CALL = 12, THROW = 13,
        CATCH = 14, END = 15;
    private static final int LEAST = Integer.MIN_VALUE, GREATEST = Integer.MAX_VALUE;
    private static final int MADE = 0, DROPPED = 1, STEPS = 2, MADE_STEPS = 3, CALLS = 4,
        MADE_CALLS = 5, FAULTS = 6, CAUGHT = 7;

    private static int wrong = 0;
    private static int asked = 0;
    private static int sentences = 0;
    private static String sentence = "";

    public static void main(String[] args) {
        memoryAndRoutines();
        bytesOfInstructions();
        whatInstructionsDo();
        throwing();
        calling();
        faults();
        accelerated();
        making();
        dropping();
        refusals();
        promisesOneToSeven();
        promisesEightToTwelve();
        promisesThirteenToSixteen();
        System.out.println(sentences + " sentences, " + asked + " answers, " + wrong
            + " not as due");
        if (wrong != 0) {
            System.exit(1);
        }
    }

    // ---- Terms: MEMORY, GLOBALS, ROUTINES ----

    private static void memoryAndRoutines() {
        memoryHasBytes();
        memoryIsZeroAtFirst();
        pagesOf64();
        globalsAreEight();
        globalsAreZeroAtFirst();
        globalsWrap();
        addressIsAMultipleOf4();
        addressesEndAt1020();
        localsUpToEight();
        aboveEightThereIsNone();
        offsetsCountFromTheAddress();
    }

    private static void memoryHasBytes() {
        sentence("MEMORY has bytes 0 .. 1023");
        Counted x = new Counted(1);
        due("the first", x.poke(0, 3), 0);
        due("the last", x.poke(1023, 4), 0);
        due("the first", x.peek(0), 3);
        due("the last", x.peek(1023), 4);
        due("one ahead", throwsAtByte(x, -1), 2);
        due("one behind", throwsAtByte(x, 1024), 2);
        due("the least", throwsAtByte(x, LEAST), 2);
        due("the greatest", throwsAtByte(x, GREATEST), 2);
    }

    private static void memoryIsZeroAtFirst() {
        sentence("MEMORY .. all 0 at first");
        for (int half = 0; half < 2; half++) {
            Counted x = new Counted(1);
            for (int i = 0; i < 512; i++) {
                due("byte " + (512 * half + i), x.peek(512 * half + i), 0);
            }
        }
    }

    private static void pagesOf64() {
        sentence("PAGES 0 .. 15 of 64");
        for (int page = 0; page < 16; page++) {
            Counted x = new Counted(1);
            x.write(64 * page + 8, 0, END);
            due("made", x.make(64 * page + 8), 1);
            if (page > 0) {
                x.poke(64 * page - 1, 1);
            }
            if (page < 15) {
                x.poke(64 * page + 64, 1);
            }
            due("the bytes beside page " + page, x.kept(0), 64 * page + 8);
            x.poke(64 * page, 1);
            due("its first byte", x.kept(0), NONE);
            due("made again", x.make(64 * page + 8), 1);
            x.poke(64 * page + 63, 1);
            due("its last byte", x.kept(0), NONE);
        }
    }

    private static void globalsAreEight() {
        sentence("GLOBALS 0 .. 7");
        Counted x = new Counted(1);
        due("the first", x.global(0, 5), 0);
        due("the last", x.global(7, 6), 0);
        due("the first", x.global(0, 0), 5);
        due("the last", x.global(7, 0), 6);
        due("one ahead", throwsAtGlobal(x, -1), 1);
        due("one behind", throwsAtGlobal(x, 8), 1);
        due("the least", throwsAtGlobal(x, LEAST), 1);
        due("the greatest", throwsAtGlobal(x, GREATEST), 1);
    }

    private static void globalsAreZeroAtFirst() {
        sentence("GLOBALS .. 0 at first");
        for (int g = 0; g < 8; g++) {
            due("by the face", new Counted(1).global(g, 1), 0);
            due("in a routine", value(routine(0, RETURN, G0 + g)), 0);
        }
    }

    private static void globalsWrap() {
        sentence("GLOBALS .. are ints (32 bits, wrapping)");
        Counted x = new Counted(1);
        x.write(0, 0, ADD, G0, G0, 1, LESS, G1, G1, 1, END);
        x.global(0, GREATEST);
        x.global(1, LEAST);
        due("done", x.call(0, 0), 0);
        due("up", x.global(0, 0), LEAST);
        due("down", x.global(1, 0), GREATEST);
    }

    private static void addressIsAMultipleOf4() {
        sentence("an ADDRESS, a multiple of 4");
        Counted x = new Counted(1);
        for (int address : new int[] {1, 2, 3, 5, 6, 7, 1017, 1018, 1019}) {
            x.poke(address + 1, END);
            refusesAddress(x, address);
        }
        x.write(4, 0, END);
        due("4", x.call(4, 0), 0);
        due("4", x.make(4), 1);
    }

    private static void addressesEndAt1020() {
        sentence("ADDRESS (0 .. 1020)");
        Counted x = new Counted(2);
        x.write(0, 0, END);
        x.write(1020, 0, END);
        for (int address : new int[] {0, 1020}) {
            due("call", x.call(address, 0), 0);
            due("walk", x.walk(address, 0), 0);
            due("make", x.make(address), 1);
            due("accelerate", x.accelerate(address, 1), 0);
        }
        for (int address : new int[] {-4, 1021, 1022, 1023, 1024, LEAST, GREATEST - 3, GREATEST}) {
            refusesAddress(x, address);
        }
    }

    private static void refusesAddress(Counted x, int address) {
        due("call " + address, x.call(address, 0), BAD);
        due("walk " + address, x.walk(address, 0), BAD);
        due("make " + address, x.make(address), BAD);
        due("accelerate " + address, x.accelerate(address, 1), BAD);
    }

    private static void localsUpToEight() {
        sentence("how many LOCALS it has (0 .. 8");
        for (int has = 0; has <= 8; has++) {
            for (int i = 0; i < 8; i++) {
                int due = i < has ? 0 : BAD_CODE;
                due(has + " locals, local " + i, answer(routine(has, RETURN, L0 + i)), due);
            }
            due("can be made", makes(routine(has, END)), 1);
        }
    }

    private static void aboveEightThereIsNone() {
        sentence("above: there is none");
        for (int has : new int[] {9, 10, 128, 255}) {
            due("called", answer(routine(has, END)), NO_ROUTINE);
            due("made", makes(routine(has, END)), BAD);
            Counted x = new Counted(1);
            x.write(0, has, END);
            x.write(64, 0, CALL, G0, 0, 0, END);
            due("called by a routine", x.call(64, 0), NO_ROUTINE);
        }
    }

    private static void offsetsCountFromTheAddress() {
        sentence("OFFSETS count from the ADDRESS on");
        Counted x = new Counted(1);
        x.write(8, 0, JUMP, 5, RETURN, 1, RETURN, 2, END);
        bothWays(x, 8, 0, 2);
        x.write(8, 0, JUMP, 5, RETURN, 1, OVER, G0, 1, 0, END);
        due("fault", x.call(8, 0), ZERO);
        due("told offset", x.fault(1), 5);
        x.write(8, 0, JUMP, 6, RETURN, 1, RETURN, 2, END);
        due("BAD", x.make(8), BAD);
        due("place", x.place(), 1);
    }

    // ---- Terms: the bytes of an INSTRUCTION ----

    private static void bytesOfInstructions() {
        valuesThatStandForThemselves();
        valuesOfLocals();
        valuesOfGlobals();
        otherValuesAreBad();
        cells();
        otherCellsAreBad();
        offsetsUpTo255();
        offset0IsTheCountOfLocals();
        upToFourValues();
        otherNumbersOfValuesAreBad();
        otherCodesAreBad();
        aLocalThatTheRoutineHasNot();
        whatItHadWhenItWasCalledCounts();
        bytesAreJudgedAsTheyAreRead();
        firstReadThenDone();
        valuesAsTheyAreThen();
    }

    private static void valuesThatStandForThemselves() {
        sentence("0 .. 127 that");
        for (int v = 0; v <= 127; v++) {
            due("value " + v, value(routine(8, RETURN, v)), v);
        }
    }

    private static void valuesOfLocals() {
        sentence("128 .. 135 LOCAL 0 .. 7");
        for (int i = 0; i < 8; i++) {
            int[] bytes = routine(8, SET, L0 + i, 100 + i, SET, L0 + (i + 1) % 8, 1, RETURN, L0 + i);
            due("local " + i, value(bytes), 100 + i);
        }
        due("by its byte", value(routine(8, SET, 135, 9, RETURN, 135)), 9);
    }

    private static void valuesOfGlobals() {
        sentence("136 .. 143 GLOBAL 0 .. 7");
        for (int g = 0; g < 8; g++) {
            Counted x = new Counted(1);
            x.global(g, 100 + g);
            x.write(0, 0, RETURN, 136 + g, END);
            bothWays(x, 0, 0, 100 + g);
            x.write(0, 0, SET, 136 + g, 50 + g, END);
            due("set", x.call(0, 0), 0);
            due("global " + g, x.global(g, 0), 50 + g);
        }
    }

    private static void otherValuesAreBad() {
        sentence("BAD are other ones (of v and w)");
        for (int b : new int[] {144, 145, 200, 254, 255}) {
            int[][] all = {
                routine(8, RETURN, b), routine(8, SET, G0, b), routine(8, ADD, G0, b, 1),
                routine(8, ADD, G0, 1, b), routine(8, LESS, G0, 1, b), routine(8, TIMES, G0, b, 1),
                routine(8, OVER, G0, b, 1), routine(8, REST, G0, 1, b), routine(8, LOAD, G0, b),
                routine(8, STORE, b, 1), routine(8, STORE, 100, b), routine(8, IF_LESS, b, 1, 1),
                routine(8, IF_LESS, 1, b, 1), routine(8, IF_ALIKE, b, 1, 1),
                routine(8, IF_ALIKE, 1, b, 1), routine(8, CALL, G0, b, 0), routine(8, THROW, b),
                routine(8, CALL, G0, 60, 1, b), routine(8, CALL, G0, 60, 4, 0, 0, 0, b),
            };
            for (int[] bytes : all) {
                isBad(bytes);
            }
        }
    }

    private static void cells() {
        sentence("d is a CELL: 128 .. 143 likewise");
        for (int d = 128; d <= 143; d++) {
            due("cell " + d, value(routine(8, SET, d, 77, RETURN, d)), 77);
        }
    }

    private static void otherCellsAreBad() {
        sentence("BAD are other ones (of d)");
        for (int d : new int[] {0, 1, 126, 127, 144, 145, 255}) {
            int[][] all = {
                routine(8, SET, d, 1), routine(8, ADD, d, 1, 1), routine(8, LESS, d, 1, 1),
                routine(8, TIMES, d, 1, 1), routine(8, OVER, d, 1, 1), routine(8, REST, d, 1, 1),
                routine(8, LOAD, d, 1), routine(8, CALL, d, 60, 0),
            };
            for (int[] bytes : all) {
                isBad(bytes);
            }
        }
    }

    private static void offsetsUpTo255() {
        sentence("t is an OFFSET, 0 .. 255");
        int[][] all = {
            {JUMP, 255}, {IF_LESS, 0, 1, 255}, {IF_ALIKE, 1, 1, 255}, {CATCH, 255, CALL, G0, 127, 0},
        };
        for (int[] bytes : all) {
            Counted x = new Counted(1);
            x.write(508, 0, THROW, 5, END);
            x.write(1, bytes);
            // RETURN 0 fills what lies between, so that it can be made with few instructions.
            for (int at = 1 + bytes.length; at < 255; at += 8) {
                x.write(at, filling(Math.min(8, 255 - at)));
            }
            x.write(255, RETURN, 33, END);
            due("walks", x.walk(0, 0), 0);
            due("to 255", x.result(), 33);
            due("can be made", x.make(0) > 0 ? 1 : 0, 1);
            due("goes", x.call(0, 0), 0);
            due("to 255", x.result(), 33);
        }
    }

    /** One instruction of 1 .. 8 bytes, or several, which jump nowhere. */
    private static int[] filling(int bytes) {
        switch (bytes) {
            case 8: return new int[] {CALL, G0, 0, 4, 0, 0, 0, 0};
            case 7: return new int[] {CALL, G0, 0, 3, 0, 0, 0};
            case 6: return new int[] {CALL, G0, 0, 2, 0, 0};
            case 5: return new int[] {CALL, G0, 0, 1, 0};
            case 4: return new int[] {ADD, G0, 0, 0};
            case 3: return new int[] {SET, G0, 0};
            case 2: return new int[] {RETURN, 0};
            default: return new int[0];
        }
    }

    private static void offset0IsTheCountOfLocals() {
        sentence("t .. 0 (of a jump): the byte at the ADDRESS");
        // The count 1 is read as SET; with the bytes behind it, it is SET of a cell 9: BAD.
        Run jump = walked(routine(1, JUMP, 0));
        due("BAD", jump.answer, BAD_CODE);
        due("offset 0", jump.offset, 0);
        // The count 0 is read as RETURN 9.
        due("RETURN", value(routine(0, JUMP, 0)), JUMP);
        due("if less", value(routine(0, IF_LESS, 0, 1, 0)), IF_LESS);
        due("if alike", value(routine(0, IF_ALIKE, 1, 1, 0)), IF_ALIKE);
    }

    private static void upToFourValues() {
        sentence("n is 0 .. 4");
        int[][] all = {
            {CALL, L0, 16, 0}, {CALL, L0, 16, 1, 1}, {CALL, L0, 16, 2, 1, 2},
            {CALL, L0, 16, 3, 1, 2, 4}, {CALL, L0, 16, 4, 1, 2, 4, 8},
        };
        int[] sums = {0, 1, 3, 7, 15};
        for (int n = 0; n <= 4; n++) {
            Counted x = new Counted(1);
            x.write(64, 5, ADD, L0, L0, L1, ADD, L2, L2, L3, ADD, L0, L0, L2, ADD, L0, L0, 132,
                RETURN, L0);
            x.write(0, 1);
            x.write(1, all[n]);
            x.write(1 + all[n].length, RETURN, L0, END);
            bothWays(x, 0, 0, sums[n]);
        }
    }

    private static void otherNumbersOfValuesAreBad() {
        sentence("BAD are other ones (of n)");
        for (int n : new int[] {5, 6, 8, 127, 128, 136, 255}) {
            isBad(routine(8, CALL, G0, 60, n, 0, 0, 0, 0, 0, 0, 0, 0));
        }
    }

    private static void otherCodesAreBad() {
        sentence("BAD are other ones (of INSTRUCTIONS)");
        for (int code = 16; code <= 255; code++) {
            isBad(routine(8, code, G0, 1, 1));
        }
        due("15 is none of them", value(routine(8, 15)), 0);
    }

    private static void aLocalThatTheRoutineHasNot() {
        sentence("BAD are .. a LOCAL that the ROUTINE has not");
        for (int has = 0; has < 8; has++) {
            int behind = L0 + has;
            isBad(routine(has, RETURN, behind));
            isBad(routine(has, SET, behind, 1));
            isBad(routine(has, ADD, G0, 1, behind));
            isBad(routine(has, STORE, behind, 1));
            isBad(routine(has, CALL, behind, 60, 0));
            isBad(routine(has, CALL, G0, 60, 1, behind));
            isBad(routine(has, THROW, behind));
            isBad(routine(has, RETURN, L7));
        }
    }

    private static void whatItHadWhenItWasCalledCounts() {
        sentence("(how many it had when it was called counts)");
        for (int later : new int[] {0, 1, 9, 255}) {
            Counted x = new Counted(1);
            x.write(0, 2, STORE, 0, G0, SET, L1, 6, RETURN, L1, END);
            x.global(0, later);
            due("walks", x.walk(0, 0), 0);
            due("fewer or none later: " + later, x.result(), 6);
            x.poke(0, 2);
            due("made", x.make(0), 4);
            due("goes", x.call(0, 0), 0);
            due("fewer or none later: " + later, x.result(), 6);
        }
        Counted y = new Counted(1);
        y.write(0, 1, STORE, 0, 8, RETURN, L1, END);
        due("more later", y.walk(0, 0), BAD_CODE);
        due("at", y.fault(1), 4);
        due("the next call has them", y.walk(0, 0), 0);
    }

    private static void bytesAreJudgedAsTheyAreRead() {
        sentence("Its bytes are read in order, each being judged as it is read");
        due("BAD ahead of the end", atTheEnd(SET, 200), BAD_CODE);
        due("the end ahead of what would be BAD", atTheEnd(SET, G0), PLACE);
        due("BAD n ahead of the end", atTheEnd(CALL, G0, 0, 5), BAD_CODE);
        due("a good n, and the end", atTheEnd(CALL, G0, 0, 4), PLACE);
        due("a BAD value ahead of the end", atTheEnd(CALL, G0, 0, 4, 1, 144), BAD_CODE);
        due("the last value and the end", atTheEnd(CALL, G0, 0, 4, 1, 1, 1), PLACE);
        due("BAD code is the last byte", atTheEnd(16), BAD_CODE);
        due("code is the last byte", atTheEnd(RETURN), PLACE);
        due("END is the last byte", atTheEnd(END), 0);
        due("t is the last byte", atTheEnd(JUMP, 1), SPENT);
    }

    /** What comes of bytes that end with MEMORY; the routine is at 1008 and jumps there. */
    private static int atTheEnd(int... bytes) {
        Counted x = new Counted(1);
        int from = 1024 - bytes.length;
        x.write(1008, 0, JUMP, from - 1008);
        x.write(from, bytes);
        int answer = x.call(1008, 0);
        if (answer == PLACE || answer == BAD_CODE) {
            due("told", x.fault(1), from - 1008);
        }
        return answer;
    }

    private static void firstReadThenDone() {
        sentence("each being judged as it is read, then it is done");
        due("BAD ahead of ZERO", answer(routine(0, OVER, G0, 1, 144)), BAD_CODE);
        due("BAD ahead of PLACE", answer(routine(1, LESS, L0, 0, 1, STORE, L0, 144)), BAD_CODE);
        due("BAD ahead of NONE", answer(routine(1, LESS, L0, 0, 1, CALL, G0, L0, 1, 144)), BAD_CODE);
        Counted x = new Counted(1);
        x.write(1016, 0, STORE, 1, 1, LESS, G0, 0);
        due("the end", x.call(1016, 0), PLACE);
        due("nothing was set", x.global(0, 0), 0);
    }

    private static void valuesAsTheyAreThen() {
        sentence("then it is done, with VALUES as they are then (in order)");
        due("d is one of them", value(routine(1, SET, L0, 3, LESS, L0, 10, L0, RETURN, L0)), 7);
        due("all three", value(routine(1, SET, L0, 3, TIMES, L0, L0, L0, RETURN, L0)), 9);
        due("in order", value(routine(0, LESS, G0, 9, 2, RETURN, G0)), 7);
        Counted x = new Counted(1);
        // The global changes in the routine that is called: what was handed over does not.
        x.write(0, 0, SET, G0, 5, CALL, G1, 16, 2, G0, 1, RETURN, G1, END);
        x.write(64, 2, SET, G0, 70, RETURN, L0);
        bothWays(x, 0, 0, 5);
    }

    // ---- Terms: what INSTRUCTIONS do ----

    private static void whatInstructionsDo() {
        returnEndsIt();
        endHasTheValue0();
        addLessAndTimesWrap();
        overIsCutTowardZero();
        byZero();
        theLeastByMinusOne();
        loadReadsAByte();
        storeTakesTheLowestEightBits();
        noSuchPlace();
        lessAtItsEdges();
        alikeAtItsEdges();
        callGivesItsValue();
    }

    private static void returnEndsIt() {
        sentence("RETURN: it ends, its value is v");
        due("nothing behind it is done", value(routine(0, RETURN, 1, RETURN, 2)), 1);
        Counted x = new Counted(1);
        x.write(0, 1, RETURN, L0, SET, G0, 1, END);
        x.argument(0, LEAST);
        bothWays(x, 0, 1, LEAST);
        due("nothing behind it is done", x.global(0, 0), 0);
    }

    private static void endHasTheValue0() {
        sentence("END: its value is 0");
        due("by call()", value(routine(0, SET, G0, 7, END)), 0);
        Counted x = new Counted(1);
        x.write(0, 1, SET, L0, 9, CALL, L0, 16, 0, RETURN, L0, END);
        x.write(64, 0, END);
        bothWays(x, 0, 0, 0);
    }

    private static void addLessAndTimesWrap() {
        sentence("ADD .. LESS .. TIMES (32 bits, wrapping)");
        due("up", reckon(ADD, GREATEST, 1), LEAST);
        due("down", reckon(ADD, LEAST, -1), GREATEST);
        due("twice the least", reckon(ADD, LEAST, LEAST), 0);
        due("below", reckon(LESS, LEAST, 1), GREATEST);
        due("above", reckon(LESS, GREATEST, -1), LEAST);
        due("less the least", reckon(LESS, 0, LEAST), LEAST);
        due("times", reckon(TIMES, 1 << 16, 1 << 16), 0);
        due("times -1", reckon(TIMES, LEAST, -1), LEAST);
        due("the greatest ones", reckon(TIMES, GREATEST, GREATEST), 1);
    }

    private static void overIsCutTowardZero() {
        sentence("OVER (cut toward 0), REST");
        due("-7 over 2", reckon(OVER, -7, 2), -3);
        due("7 over -2", reckon(OVER, 7, -2), -3);
        due("-7 over -2", reckon(OVER, -7, -2), 3);
        due("1 over 2", reckon(OVER, 1, 2), 0);
        due("-1 over 2", reckon(OVER, -1, 2), 0);
        due("-7 rest 2", reckon(REST, -7, 2), -1);
        due("7 rest -2", reckon(REST, 7, -2), 1);
        due("-7 rest -2", reckon(REST, -7, -2), -1);
        due("7 over -1", reckon(OVER, 7, -1), -7);
        due("7 rest -1", reckon(REST, 7, -1), 0);
    }

    private static void byZero() {
        sentence("by 0 ZERO");
        for (int v : new int[] {0, 1, -1, LEAST, GREATEST}) {
            due("over", reckon(OVER, v, 0), ZERO);
            due("rest", reckon(REST, v, 0), ZERO);
        }
        due("0 over 1 is none", reckon(OVER, 0, 1), 0);
        due("others have none", reckon(TIMES, 5, 0), 0);
        due("nor ADD", reckon(ADD, 5, 0), 5);
        Counted x = new Counted(1);
        x.global(0, 8);
        x.write(0, 0, REST, G0, 1, 0, END);
        due("ZERO", x.call(0, 0), ZERO);
        due("d is left", x.global(0, 0), 8);
    }

    private static void theLeastByMinusOne() {
        sentence("(the least by -1: itself, 0)");
        due("over", reckon(OVER, LEAST, -1), LEAST);
        due("rest", reckon(REST, LEAST, -1), 0);
        due("one above over", reckon(OVER, LEAST + 1, -1), GREATEST);
        due("the least by 1", reckon(OVER, LEAST, 1), LEAST);
        due("the least by itself", reckon(OVER, LEAST, LEAST), 1);
    }

    private static void loadReadsAByte() {
        sentence("LOAD: d becomes the byte at v");
        Counted x = new Counted(1);
        x.write(64, 1, LOAD, L0, L0, RETURN, L0, END);
        x.poke(0, 255);
        x.poke(1023, 128);
        x.argument(0, 0);
        bothWays(x, 64, 1, 255);
        x.argument(0, 1023);
        bothWays(x, 64, 1, 128);
    }

    private static void storeTakesTheLowestEightBits() {
        sentence("the byte at v becomes the lowest 8 bits of w");
        int[] values = {0, 255, 256, 257, -1, -256, LEAST, GREATEST, 0x12345678};
        int[] bytes = {0, 255, 0, 1, 255, 0, 0, 255, 0x78};
        Counted x = new Counted(1);
        x.write(64, 2, STORE, L0, L1, END);
        for (int i = 0; i < values.length; i++) {
            for (int place : new int[] {0, 1023}) {
                x.argument(0, place);
                x.argument(1, values[i]);
                due("done", x.call(64, 2), 0);
                due("of " + values[i], x.peek(place), bytes[i]);
            }
        }
    }

    private static void noSuchPlace() {
        sentence("PLACE where there is none");
        for (int place : new int[] {-1, 1024, LEAST, GREATEST, 1 << 10 | 1 << 20}) {
            Counted x = new Counted(2);
            x.write(64, 1, LOAD, G0, L0, END);
            x.write(128, 1, STORE, L0, 9, END);
            x.global(0, 44);
            x.argument(0, place);
            due("load", x.walk(64, 1), PLACE);
            due("store", x.walk(128, 1), PLACE);
            x.make(64);
            x.make(128);
            due("made load", x.call(64, 1), PLACE);
            due("made store", x.call(128, 1), PLACE);
            due("d is left", x.global(0, 0), 44);
            due("the first byte is left", x.peek(0), 0);
        }
    }

    private static void lessAtItsEdges() {
        sentence("if v is less than w");
        due("less by 1", jumps(IF_LESS, 4, 5), 1);
        due("alike", jumps(IF_LESS, 5, 5), 0);
        due("greater by 1", jumps(IF_LESS, 6, 5), 0);
        due("negative", jumps(IF_LESS, -1, 0), 1);
        due("the least", jumps(IF_LESS, LEAST, GREATEST), 1);
        due("the greatest", jumps(IF_LESS, GREATEST, LEAST), 0);
    }

    private static void alikeAtItsEdges() {
        sentence("if they are alike");
        due("alike", jumps(IF_ALIKE, 5, 5), 1);
        due("less by 1", jumps(IF_ALIKE, 4, 5), 0);
        due("greater by 1", jumps(IF_ALIKE, 6, 5), 0);
        due("alike in 8 bits alone", jumps(IF_ALIKE, 256, 0), 0);
        due("the other sign", jumps(IF_ALIKE, LEAST, 0), 0);
        due("the least", jumps(IF_ALIKE, LEAST, LEAST), 1);
    }

    private static int jumps(int code, int v, int w) {
        Counted x = new Counted(1);
        x.write(0, 2, code, L0, L1, 7, RETURN, 0, RETURN, 1, END);
        x.argument(0, v);
        x.argument(1, w);
        due("walks", x.walk(0, 2), 0);
        int walked = x.result();
        bothWays(x, 0, 2, walked);
        return walked;
    }

    private static void callGivesItsValue() {
        sentence("d becomes its value");
        Counted x = new Counted(2);
        x.write(0, 1, CALL, L0, 16, 0, RETURN, L0, END);
        x.write(64, 1, LESS, L0, L0, 9, RETURN, L0, END);
        bothWays(x, 0, 0, -9);
        x.write(64, 1, SET, G0, 1, RETURN, 4, END);
        x.write(0, 1, CALL, G0, 16, 0, RETURN, G0, END);
        bothWays(x, 0, 0, 4);
    }

    // ---- Terms: THROW and CATCH ----

    private static void throwing() {
        throwHasANumber();
        fromNowOn();
        outOfACallAlone();
        throughSeveral();
        theInnermostCatches();
        global7BecomesTheNumber();
        catch0();
        aLaterCatchStandsForTheEarlier();
        catchEndsWithItsRoutine();
    }

    private static void throwHasANumber() {
        sentence("THROW: with the number v");
        for (int number : new int[] {0, 1, -1, LEAST, GREATEST}) {
            Counted x = new Counted(1);
            x.write(0, 1, THROW, L0, END);
            x.argument(0, number);
            due("thrown", x.call(0, 1), THROWN);
            due("number", x.fault(2), number);
            x.write(64, 1, CATCH, 8, CALL, G0, 0, 1, L0, RETURN, G7, END);
            bothWays(x, 64, 1, number);
        }
    }

    private static void fromNowOn() {
        sentence("from now on what is THROWN .. is caught");
        Counted x = new Counted(1);
        x.write(64, 0, THROW, 3, END);
        x.write(0, 0, CALL, G0, 16, 0, CATCH, 7, RETURN, 1, END);
        due("not ahead of it", x.call(0, 0), THROWN);
        // Caught at 3 each time, until the third throw is counted.
        x.write(0, 1, CATCH, 3, ADD, L0, L0, 1, IF_ALIKE, L0, 4, 15, CALL, G0, 16, 0);
        x.write(15, RETURN, L0, END);
        due("again and again", x.walk(0, 0), 0);
        due("value", x.result(), 4);
        due("three times", x.count(CAUGHT), 3);
        bothWays(x, 0, 0, 4);
    }

    private static void outOfACallAlone() {
        sentence("THROWN out of a CALL that this ROUTINE makes");
        Counted x = new Counted(1);
        x.write(0, 0, CATCH, 5, THROW, 9, RETURN, 1, END);
        due("its own", x.walk(0, 0), THROWN);
        due("made", x.make(0), 4);
        due("its own", x.call(0, 0), THROWN);
        due("offset", x.fault(1), 3);
        due("caught", x.count(CAUGHT), 0);
    }

    private static void throughSeveral() {
        sentence("what is THROWN out of a CALL (through others, too)");
        Counted x = new Counted(4);
        x.write(0, 1, CATCH, 9, CALL, L0, 16, 0, RETURN, 1, RETURN, G7, END);
        x.write(64, 0, CALL, G0, 32, 0, SET, G1, 1, RETURN, 2, END);
        x.write(128, 0, CALL, G0, 48, 0, SET, G1, 2, RETURN, 3, END);
        x.write(192, 0, THROW, 6, END);
        bothWays(x, 0, 0, 6);
        x.make(64);
        x.make(192);
        bothWays(x, 0, 0, 6);
        due("they do not go on", x.global(1, 0), 0);
        due("nothing is given", x.global(0, 0), 0);
    }

    private static void theInnermostCatches() {
        sentence("a CALL that this ROUTINE makes is caught: it goes on at t");
        Counted x = new Counted(4);
        x.write(0, 1, CATCH, 9, CALL, L0, 16, 0, RETURN, L0, RETURN, 99, END);
        x.write(64, 0, CATCH, 9, CALL, G0, 32, 0, RETURN, 1, RETURN, 2, END);
        x.write(128, 0, THROW, 6, END);
        bothWays(x, 0, 0, 2);
        // One that catches and throws again comes to the next.
        x.write(64, 0, CATCH, 9, CALL, G0, 32, 0, RETURN, 1, THROW, 8, END);
        bothWays(x, 0, 0, 99);
        due("the second number", x.global(7, 0), 8);
    }

    private static void global7BecomesTheNumber() {
        sentence("GLOBAL 7 becomes the number");
        Counted x = new Counted(1);
        x.global(7, 5);
        x.global(6, 5);
        x.write(64, 0, THROW, 3, END);
        x.write(0, 0, CALL, G0, 16, 0, END);
        due("not caught", x.call(0, 0), THROWN);
        due("it is left", x.global(7, 5), 5);
        x.write(0, 0, CATCH, 7, CALL, G0, 16, 0, END);
        due("caught", x.call(0, 0), 0);
        due("the number", x.global(7, 0), 3);
        due("its neighbour is left", x.global(6, 0), 5);
        due("d is left", x.global(0, 0), 0);
    }

    private static void catch0() {
        sentence("t 0: no more");
        Counted x = new Counted(1);
        x.write(64, 0, THROW, 3, END);
        x.write(0, 0, CATCH, 9, CATCH, 0, CALL, G0, 16, 0, RETURN, 1, END);
        due("walks", x.walk(0, 0), THROWN);
        due("can be made", x.make(0), 5);
        due("goes", x.call(0, 0), THROWN);
        due("the THROW", x.fault(0), 64);
        x.write(0, 0, CATCH, 0, CATCH, 9, CALL, G0, 16, 0, RETURN, 1, END);
        bothWays(x, 0, 0, 1);
    }

    private static void aLaterCatchStandsForTheEarlier() {
        sentence("CATCH: from now on .. it goes on at t");
        Counted x = new Counted(1);
        x.write(64, 0, THROW, 3, END);
        x.write(0, 0, CATCH, 9, CATCH, 11, CALL, G0, 16, 0, RETURN, 1, RETURN, 2, END);
        bothWays(x, 0, 0, 2);
    }

    private static void catchEndsWithItsRoutine() {
        sentence("a CALL that this ROUTINE makes");
        Counted x = new Counted(1);
        x.write(64, 0, THROW, 3, END);
        x.write(128, 0, CATCH, 8, CALL, G0, 16, 0, END, END);
        x.write(0, 0, CALL, G0, 32, 0, CALL, G0, 16, 0, RETURN, 1, END);
        due("not by one that has ended", x.walk(0, 0), THROWN);
        due("caught once", x.count(CAUGHT), 1);
        x.write(192, 0, CALL, G0, 16, 0, RETURN, 1, END);
        due("one that catches", x.walk(128, 0), 0);
        due("does not in the next call", x.walk(192, 0), THROWN);
        x.write(0, 0, CALL, G0, 32, 0, CALL, G0, 48, 0, RETURN, 1, END);
        due("nor for one that is called behind it", x.walk(0, 0), THROWN);
    }

    // ---- Terms: A CALL ----

    private static void calling() {
        argumentsInOrder();
        asManyAsThereAreOfBoth();
        othersAre0();
        callOfNoAddress();
        callOfNoRoutine();
        twelveAreUnderWay();
        deepAheadOfNone();
        eachThatBeginsIsAStep();
        fourHundredSteps();
        stepsOfOneCall();
    }

    private static void argumentsInOrder() {
        sentence("LOCALS are the arguments, in order");
        for (int i = 0; i < 4; i++) {
            Counted x = new Counted(1);
            x.write(0, 4, RETURN, L0 + i, END);
            for (int k = 0; k < 4; k++) {
                x.argument(k, 10 + k);
            }
            bothWays(x, 0, 4, 10 + i);
            x.write(64, 0, CALL, G0, 0, 4, 20, 21, 22, 23, RETURN, G0, END);
            bothWays(x, 64, 0, 20 + i);
        }
    }

    private static void asManyAsThereAreOfBoth() {
        sentence("as many as there are of both");
        for (int n = 0; n <= 4; n++) {
            for (int i = 0; i < 5; i++) {
                Counted x = new Counted(1);
                x.write(0, 5, RETURN, L0 + i, END);
                for (int k = 0; k < 4; k++) {
                    x.argument(k, 10 + k);
                }
                bothWays(x, 0, n, i < n ? 10 + i : 0);
            }
        }
        Counted x = new Counted(1);
        for (int k = 0; k < 4; k++) {
            x.argument(k, 10 + k);
        }
        x.write(0, 0, RETURN, 7, END);
        bothWays(x, 0, 4, 7);
        x.write(0, 1, RETURN, L0, END);
        bothWays(x, 0, 4, 10);
        due("the arguments stay", x.walk(0, 1), 0);
        due("the first", x.result(), 10);
    }

    private static void othersAre0() {
        sentence("others 0");
        for (int i = 0; i < 8; i++) {
            Counted x = new Counted(2);
            x.write(0, 8, SET, L0 + i, 99, END);
            x.write(64, 8, RETURN, L0 + i, END);
            due("one that sets it", x.call(0, 0), 0);
            due("the next call", x.call(64, 0), 0);
            due("local " + i, x.result(), 0);
            x.write(128, 0, CALL, G0, 0, 0, CALL, G0, 16, 0, RETURN, G0, END);
            bothWays(x, 128, 0, 0);
        }
    }

    private static void callOfNoAddress() {
        sentence("NONE: 4 v is no ADDRESS (0 .. 1020)");
        due("0", callsWith(0), 0);
        due("255", callsWith(255), 0);
        due("-1", callsWith(-1), NO_ROUTINE);
        due("256", callsWith(256), NO_ROUTINE);
        due("the least", callsWith(LEAST), NO_ROUTINE);
        due("the greatest", callsWith(GREATEST), NO_ROUTINE);
        due("4 v is 2^32", callsWith(1 << 30), NO_ROUTINE);
        due("4 v is 2^31", callsWith(1 << 29), NO_ROUTINE);
    }

    private static int callsWith(int v) {
        Counted x = new Counted(1);
        x.write(0, 0, END);
        x.write(1020, 0, END);
        x.write(64, 1, CALL, G0, L0, 0, RETURN, G0, END);
        x.argument(0, v);
        int walked = x.walk(64, 1);
        x.make(64);
        due("a made one calls alike", x.call(64, 1), walked);
        due("who is told", x.fault(0), walked == 0 ? NONE : 64);
        due("and where", x.fault(1), walked == 0 ? NONE : 1);
        return walked;
    }

    private static void callOfNoRoutine() {
        sentence("NONE: .. or there is no ROUTINE");
        Counted x = new Counted(1);
        x.write(0, 0, CALL, G0, 16, 0, END);
        x.poke(64, 8);
        x.poke(65, END);
        due("8 locals", x.call(0, 0), 0);
        x.poke(64, 9);
        due("9", x.call(0, 0), NO_ROUTINE);
        due("who calls", x.fault(0), 0);
        due("where", x.fault(1), 1);
        due("by call()", x.call(64, 0), NO_ROUTINE);
        due("its address", x.fault(0), 64);
        due("0", x.fault(1), 0);
    }

    /** A routine that calls itself until its local is 0, then does what is at 16. */
    private static Counted descends(int... last) {
        Counted x = new Counted(2);
        x.write(0, 1, IF_ALIKE, L0, 0, 16, LESS, L0, L0, 1, CALL, L0, 0, 1, L0, RETURN, L0);
        x.write(16, last);
        return x;
    }

    private static void twelveAreUnderWay() {
        sentence("DEEP: 12 are under way already");
        Counted x = descends(RETURN, 77, END);
        for (int i = 0; i < 2; i++) {
            x.argument(0, 11);
            due("the twelfth", x.call(0, 1), 0);
            due("value", x.result(), 77);
            x.argument(0, 12);
            due("the thirteenth", x.call(0, 1), DEEP);
            due("who calls", x.fault(0), 0);
            due("where", x.fault(1), 9);
            x.make(0);
        }
        due("24 and 24 of routines", x.count(CALLS), 48);
        // Those that have ended are not under way any more.
        Counted y = new Counted(1);
        y.write(0, 1, CALL, G0, 16, 0, ADD, L0, L0, 1, IF_LESS, L0, 30, 1, RETURN, L0, END);
        y.write(64, 0, END);
        bothWays(y, 0, 0, 30);
    }

    private static void deepAheadOfNone() {
        sentence("DEEP: .. (ahead of NONE)");
        Counted x = descends(CALL, L0, 127, 0, END);
        x.poke(508, 9);
        x.argument(0, 10);
        due("11 are under way", x.call(0, 1), NO_ROUTINE);
        x.argument(0, 11);
        due("12 are", x.call(0, 1), DEEP);
        due("where", x.fault(1), 16);
        Counted y = descends(CALL, L0, G0, 0, END);
        y.global(0, 256);
        y.argument(0, 10);
        due("no address, 11", y.call(0, 1), NO_ROUTINE);
        y.argument(0, 11);
        due("no address, 12", y.call(0, 1), DEEP);
    }

    private static void eachThatBeginsIsAStep() {
        sentence("Each INSTRUCTION that begins is a STEP");
        due("one", walked(routine(0, END)).steps, 1);
        due("three", walked(routine(0, SET, G0, 1, JUMP, 6, END)).steps, 3);
        due("one with a fault", walked(routine(0, OVER, G0, 1, 0)).steps, 1);
        due("one that is BAD", walked(routine(0, SET, G0, 1, 16)).steps, 2);
        due("a throw", walked(routine(0, THROW, 1)).steps, 1);
        due("no routine", walked(routine(9, END)).steps, 0);
        Counted x = new Counted(1);
        x.write(1020, 0, SET, G0, 1);
        due("beyond memory", x.call(1020, 0), PLACE);
        due("begins, too", x.count(STEPS), 2);
    }

    private static void fourHundredSteps() {
        sentence("SPENT: 400 were made in one call() and one more would be");
        for (int made = 0; made < 2; made++) {
            due("399", spends(199, made == 1, END), 0);
            due("400", spends(199, made == 1, JUMP, 11, END), 0);
            due("401", spends(199, made == 1, JUMP, 11, JUMP, 13, END), SPENT);
        }
        due("BAD in the 400th", spends(199, false, JUMP, 11, 255), BAD_CODE);
        due("ZERO in the 400th", spends(199, false, JUMP, 11, OVER, G0, 1, 0), ZERO);
        due("SPENT ahead of BAD", spends(199, false, JUMP, 11, JUMP, 13, 255), SPENT);
        Counted x = new Counted(1);
        x.write(0, 0, ADD, G0, G0, 1, JUMP, 1, END);
        due("SPENT", x.call(0, 0), SPENT);
        due("routine", x.fault(0), 0);
        due("the one that would be", x.fault(1), 1);
        due("400", x.count(STEPS), 400);
        due("half of them", x.global(0, 0), 200);
    }

    /** Two steps a round, and then the bytes at 9. */
    private static int spends(int rounds, boolean made, int... last) {
        Counted x = new Counted(1);
        x.write(0, 2, ADD, L0, L0, 1, IF_LESS, L0, L1, 1);
        x.write(9, last);
        x.argument(0, 0);
        x.argument(1, rounds);
        if (made) {
            due("made", x.make(0) > 0 ? 1 : 0, 1);
        }
        int answer = x.call(0, 2);
        due("400 at most", x.count(STEPS) <= 400 ? 1 : 0, 1);
        return answer;
    }

    private static void stepsOfOneCall() {
        sentence("400 were made in one call()");
        Counted x = new Counted(1);
        x.write(0, 2, ADD, L0, L0, 1, IF_LESS, L0, L1, 1, END);
        x.argument(0, 0);
        x.argument(1, 150);
        due("301", x.call(0, 2), 0);
        due("301 anew", x.walk(0, 2), 0);
        due("602 ever", x.count(STEPS), 602);
        // Those of all that are under way count together.
        x.write(64, 1, CALL, G0, 0, 2, 0, L0, CALL, G0, 0, 2, 0, L0, END);
        x.argument(0, 98);
        due("197 and 197 and 3", x.call(64, 1), 0);
        x.argument(0, 99);
        due("199 and 199 and 3", x.call(64, 1), SPENT);
        due("the last one", x.fault(0), 64);
        due("its offset", x.fault(1), 13);
    }

    // ---- Terms: FAULTS ----

    private static void faults() {
        numbersOfFaults();
        instructionBeyondMemory();
        thrownWhichNoCatchCaught();
        theyEndAllThatIsUnderWay();
        whatWasDoneStays();
        toldAreRoutineAndOffset();
        toldOfThrown();
        toldOfCallItself();
    }

    private static void numbersOfFaults() {
        sentence("FAULTS: 1 PLACE .. 7 BAD");
        due("1", answer(routine(1, LESS, L0, 0, 1, LOAD, G0, L0)), -11);
        due("2", answer(routine(0, OVER, G0, 1, 0)), -12);
        due("3", answer(routine(9)), -13);
        due("4", answer(routine(0, CALL, G0, 0, 0)), -14);
        due("5", answer(routine(0, JUMP, 1)), -15);
        due("6", answer(routine(0, THROW, 1)), -16);
        due("7", answer(routine(0, 16)), -17);
    }

    private static void instructionBeyondMemory() {
        sentence("1 PLACE (also a byte of an INSTRUCTION that is to be read beyond MEMORY)");
        Counted x = new Counted(1);
        x.write(1020, 0, SET, G0, 1);
        due("its first byte", x.call(1020, 0), PLACE);
        due("routine", x.fault(0), 1020);
        due("offset", x.fault(1), 4);
        x.write(1020, 0, ADD, G0, 1);
        due("its last byte", x.call(1020, 0), PLACE);
        due("offset", x.fault(1), 1);
        x.write(1020, 0, JUMP, 255, 0);
        due("far beyond", x.call(1020, 0), PLACE);
        due("offset", x.fault(1), 255);
        x.write(1020, 0, RETURN, 5, 0);
        due("none is to be read", x.call(1020, 0), 0);
        x.write(64, 0, THROW, 8);
        x.write(1012, 0, CATCH, 12, CALL, G0, 16, 0, END);
        due("where a CATCH goes on", x.call(1012, 0), PLACE);
        due("routine", x.fault(0), 1012);
        due("offset", x.fault(1), 12);
        due("no number", x.fault(2), 0);
        due("it was caught", x.global(7, 0), 8);
    }

    private static void thrownWhichNoCatchCaught() {
        sentence("6 THROWN, which no CATCH caught");
        Counted x = new Counted(1);
        x.write(64, 0, THROW, 3, END);
        x.write(0, 0, CATCH, 7, CALL, G0, 16, 0, END);
        due("caught", x.call(0, 0), 0);
        due("is no FAULT", x.count(FAULTS), 0);
        due("nothing is told", x.fault(0), NONE);
        due("nor a number", x.fault(2), 0);
        due("not caught", x.call(64, 0), THROWN);
        due("is one", x.count(FAULTS), 1);
        due("caught is only the other", x.count(CAUGHT), 1);
    }

    private static void theyEndAllThatIsUnderWay() {
        sentence("They end all that is under way");
        int[][] all = {
            {OVER, G0, 1, 0}, {LOAD, G0, G2}, {16}, {CALL, G0, G2, 0}, {CALL, G0, 0, 0}, {JUMP, 1},
        };
        int[] due = {ZERO, PLACE, BAD_CODE, NO_ROUTINE, DEEP, SPENT};
        for (int i = 0; i < all.length; i++) {
            Counted x = new Counted(2);
            x.global(2, -1);
            x.write(0, 0, CATCH, 7, CALL, G0, 16, 0, SET, G1, 1, END);
            x.write(64, 0);
            x.write(65, all[i]);
            due("no CATCH catches it", x.walk(0, 0), due[i]);
            x.make(0);
            due("made", x.call(0, 0), due[i]);
            due("who calls does not go on", x.global(1, 0), 0);
            due("not caught", x.count(CAUGHT), 0);
            x.write(128, 0, RETURN, 6);
            due("the next call", x.call(128, 0), 0);
            due("is not under way with them", x.result(), 6);
        }
    }

    private static void whatWasDoneStays() {
        sentence("what was done stays");
        Counted x = new Counted(2);
        x.write(64, 0, END);
        x.make(64);
        x.write(0, 0, SET, G0, 5, STORE, 100, 6, CALL, G1, 32, 0, END);
        x.write(128, 0, SET, G2, 7, OVER, G0, 1, 0);
        due("ZERO", x.call(0, 0), ZERO);
        due("the global", x.global(0, 0), 5);
        due("the byte", x.peek(100), 6);
        due("the other routine's", x.global(2, 0), 7);
        due("what it dropped", x.kept(0), NONE);
        due("the steps", x.count(STEPS), 5);
    }

    private static void toldAreRoutineAndOffset() {
        sentence("Of a FAULT are told the ROUTINE and the OFFSET of the INSTRUCTION in which it came");
        int[][] all = {
            {OVER, G0, 1, 0}, {REST, G0, 1, 0}, {LOAD, G0, G2}, {STORE, G2, 1}, {16}, {SET, G0, 144},
            {CALL, G0, G2, 0}, {CALL, G0, 16, 0},
        };
        int[] due = {ZERO, ZERO, PLACE, PLACE, BAD_CODE, BAD_CODE, NO_ROUTINE, DEEP};
        for (int i = 0; i < all.length; i++) {
            Counted x = new Counted(2);
            x.global(2, -1);
            x.write(0, 0, SET, G1, 1, CALL, G0, 16, 0, END);
            x.write(64, 0, SET, G1, 1);
            x.write(68, all[i]);
            due("the fault", x.call(0, 0), due[i]);
            due("the routine", x.fault(0), 64);
            due("the offset", x.fault(1), 4);
            due("no number", x.fault(2), 0);
        }
    }

    private static void toldOfThrown() {
        sentence("(of 6 of the THROW");
        Counted x = new Counted(3);
        x.write(0, 0, CALL, G0, 16, 0, END);
        x.write(64, 0, SET, G1, 1, CALL, G0, 32, 0, END);
        x.write(128, 0, SET, G1, 1, SET, G1, 2, THROW, 44, END);
        due("thrown", x.walk(0, 0), THROWN);
        due("routine", x.fault(0), 128);
        due("offset", x.fault(1), 7);
        due("number", x.fault(2), 44);
        x.make(0);
        x.make(64);
        x.make(128);
        due("made", x.call(0, 0), THROWN);
        due("routine", x.fault(0), 128);
        due("offset", x.fault(1), 7);
        due("number", x.fault(2), 44);
    }

    private static void toldOfCallItself() {
        sentence("of call() itself, NONE, DEEP, or by one that is ACCELERATED, its ADDRESS, and 0");
        Counted x = new Counted(1);
        x.poke(64, 9);
        due("NONE", x.call(64, 0), NO_ROUTINE);
        due("address", x.fault(0), 64);
        due("0", x.fault(1), 0);
        due("walk", x.walk(64, 0), NO_ROUTINE);
        due("address", x.fault(0), 64);
        x.accelerate(128, 4);
        due("PLACE", x.call(128, 0), PLACE);
        due("address", x.fault(0), 128);
        due("0", x.fault(1), 0);
    }

    // ---- Terms: ACCELERATED ADDRESSES ----

    private static void accelerated() {
        whateverLiesThere();
        acceleratedIsOneStep();
        acceleratedSpent();
        theSum();
        theGreatest();
        howManyAreNotZero();
        theByteAtTheFirst();
        placeInTheInstructionThatCalls();
        deepIsNotAsked();
    }

    private static void whateverLiesThere() {
        sentence("a CALL of one (also by call(), whatever lies there, ahead of NONE)");
        Counted x = new Counted(1);
        x.write(0, 9, 255);
        x.write(64, 0, CALL, G0, 0, 2, 30, 4, RETURN, G0, END);
        due("NONE", x.call(0, 2), NO_ROUTINE);
        due("NONE", x.call(64, 2), NO_ROUTINE);
        x.accelerate(0, 1);
        x.argument(0, 5);
        x.argument(1, 6);
        due("by call()", x.call(0, 2), 0);
        due("value", x.result(), 11);
        due("by walk()", x.walk(0, 1), 0);
        due("value", x.result(), 5);
        bothWays(x, 64, 0, 34);
        x.write(0, 1, RETURN, 99, END);
        x.make(0);
        due("a routine, and a made one", x.call(0, 2), 0);
        due("value", x.result(), 11);
        due("nothing of it began", x.count(CALLS), 4);
        due("by 1", x.accelerate(0, 0), 1);
        keptAre(x, 0);
        due("not any more", x.call(0, 2), 0);
        due("value", x.result(), 99);
    }

    private static void acceleratedIsOneStep() {
        sentence("is 1 STEP");
        for (int number = 1; number <= 4; number++) {
            Counted x = new Counted(1);
            x.accelerate(0, number);
            due("done", x.call(0, 1), 0);
            due("by call()", x.count(STEPS), 1);
            x.write(64, 0, CALL, G0, 0, 1, 7, END);
            due("done", x.call(64, 0), 0);
            due("beside the CALL and the END", x.count(STEPS), 4);
            x.make(64);
            due("done", x.call(64, 0), 0);
            due("of a made one", x.count(STEPS), 7);
            due("it goes by no MADE one itself", x.count(MADE_STEPS), 2);
        }
    }

    private static void acceleratedSpent() {
        sentence("(of SPENT there: the INSTRUCTION that calls)");
        for (int made = 0; made < 2; made++) {
            // 2 n steps in n rounds, then the CALL, what it calls, and END.
            due("401: END would be", spendsAccelerated(199, made == 1), SPENT);
            Counted x = new Counted(1);
            x.accelerate(64, 1);
            x.write(0, 2, JUMP, 3, ADD, L0, L0, 1, IF_LESS, L0, L1, 3, CALL, G0, 16, 1, 9, END);
            x.argument(1, 199);
            x.global(0, 4);
            if (made == 1) {
                x.make(0);
            }
            due("the CALL is the 400th", x.call(0, 2), SPENT);
            due("who calls", x.fault(0), 0);
            due("where", x.fault(1), 11);
            due("400", x.count(STEPS), 400);
            due("nothing is given", x.global(0, 0), 4);
        }
    }

    private static int spendsAccelerated(int rounds, boolean made) {
        Counted x = new Counted(1);
        x.accelerate(64, 1);
        x.write(0, 2, ADD, L0, L0, 1, IF_LESS, L0, L1, 1, CALL, G0, 16, 1, 9, END);
        x.argument(1, rounds);
        if (made) {
            x.make(0);
        }
        int answer = x.call(0, 2);
        due("it is given", x.global(0, 0), 9);
        due("END", x.fault(1), 14);
        return answer;
    }

    private static void theSum() {
        sentence("1 the sum of its arguments");
        due("of none", builtIn(1), 0);
        due("of one", builtIn(1, 5), 5);
        due("of four", builtIn(1, 1, 2, 4, 8), 15);
        due("wrapping", builtIn(1, GREATEST, 1), LEAST);
        due("wrapping back", builtIn(1, GREATEST, 1, LEAST), 0);
    }

    private static void theGreatest() {
        sentence("2 the greatest (0 without any)");
        due("without any", builtIn(2), 0);
        Counted x = new Counted(1);
        x.accelerate(64, 2);
        x.argument(0, 9);
        due("one", x.call(64, 1), 0);
        due("value", x.result(), 9);
        due("without any behind one with some", x.call(64, 0), 0);
        due("value", x.result(), 0);
        due("negative", builtIn(2, -5), -5);
        due("the least", builtIn(2, LEAST), LEAST);
        due("first", builtIn(2, 9, 2, 3, 4), 9);
        due("last", builtIn(2, -9, -8, -7, -6), -6);
        due("middle", builtIn(2, 1, GREATEST, LEAST, 0), GREATEST);
    }

    private static void howManyAreNotZero() {
        sentence("3 how many are not 0");
        due("of none", builtIn(3), 0);
        due("of a 0", builtIn(3, 0), 0);
        due("all", builtIn(3, 1, -1, LEAST, 256), 4);
        due("some", builtIn(3, 0, 5, 0, 5), 2);
    }

    private static void theByteAtTheFirst() {
        sentence("4 the byte at the first");
        Counted x = new Counted(1);
        x.accelerate(64, 4);
        x.poke(0, 200);
        x.poke(1023, 255);
        x.argument(1, 5);
        due("0", x.call(64, 1), 0);
        due("byte", x.result(), 200);
        x.argument(0, 1023);
        due("1023", x.call(64, 4), 0);
        due("byte", x.result(), 255);
    }

    private static void placeInTheInstructionThatCalls() {
        sentence("(PLACE in the INSTRUCTION that calls, without any, too)");
        for (int place : new int[] {-1, 1024, LEAST, GREATEST}) {
            due("no byte", builtIn(4, place), PLACE);
            due("no byte, others are", builtIn(4, place, 1, 1, 1), PLACE);
        }
        due("without any", builtIn(4), PLACE);
        Counted x = new Counted(1);
        x.accelerate(64, 4);
        x.write(0, 0, SET, G0, 1, CALL, G1, 16, 0, END);
        due("without any", x.walk(0, 0), PLACE);
        due("who calls", x.fault(0), 0);
        due("where", x.fault(1), 4);
        due("its step was made", x.count(STEPS), 3);
        due("with one", x.call(64, 1), 0);
        due("without any behind it", x.call(64, 0), PLACE);
        x.write(0, 1, LESS, L0, L0, 1, CALL, G1, 16, 1, L0, END);
        x.make(0);
        due("-1", x.call(0, 0), PLACE);
        due("who calls", x.fault(0), 0);
        due("where", x.fault(1), 5);
    }

    private static void deepIsNotAsked() {
        sentence("(DEEP is not asked.)");
        Counted x = descends(CALL, L0, 127, 1, 66, RETURN, L0, END);
        x.accelerate(508, 1);
        x.argument(0, 11);
        due("12 are under way", x.call(0, 1), 0);
        due("value", x.result(), 66);
        x.accelerate(508, 0);
        due("another one", x.call(0, 1), DEEP);
    }

    // ---- Terms: MADE ----

    private static void making() {
        upToTheFirstEnd();
        sixtyAtMost();
        noneBad();
        noByteBeyondMemory();
        eachOffsetIsOneOfThese();
        catch0CanBeMade();
        pagesFromTheAddressToTheEnd();
        mostAreKept();
        oneMoreIsMade();
    }

    private static void upToTheFirstEnd() {
        sentence("up to the first END, with it");
        due("END alone", makes(routine(0, END)), 1);
        due("with what follows", makes(routine(0, END, 255)), 1);
        due("the first of two", makes(routine(0, SET, G0, 1, END, END, 255)), 2);
        due("15 within an instruction is none", makes(routine(0, RETURN, 15, SET, G0, 15, END)), 3);
        due("RETURN does not end it", makes(routine(0, RETURN, 1, RETURN, 2, END)), 3);
        due("nor a jump", makes(routine(0, JUMP, 1, JUMP, 3, END)), 3);
    }

    private static void sixtyAtMost() {
        sentence("60 at most");
        due("59", makes(many(59)), 59);
        due("60", makes(many(60)), 60);
        due("61", makes(many(61)), BAD);
        Counted x = new Counted(1);
        x.write(0, many(61));
        due("61", x.make(0), BAD);
        due("the 61st", x.place(), 121);
        due("none is kept", x.kept(0), NONE);
    }

    /** A routine of so many INSTRUCTIONS: RETURN 0 and at last END. */
    private static int[] many(int n) {
        int[] bytes = new int[2 * n];
        bytes[2 * n - 1] = END;
        return bytes;
    }

    private static void noneBad() {
        sentence("none BAD");
        due("code", placeOf(routine(0, SET, G0, 1, 16, END)), 4);
        due("value", placeOf(routine(0, SET, G0, 1, RETURN, 144, END)), 4);
        due("cell", placeOf(routine(0, SET, G0, 1, SET, 127, 1, END)), 4);
        due("n", placeOf(routine(0, SET, G0, 1, CALL, G0, 0, 5, END)), 4);
        due("a local", placeOf(routine(7, SET, G0, 1, RETURN, L7, END)), 4);
        due("that it has", placeOf(routine(8, SET, G0, 1, RETURN, L7, END)), NONE);
        due("though it is never come to", placeOf(routine(0, RETURN, 1, 16, END)), 3);
    }

    private static void noByteBeyondMemory() {
        sentence("no byte beyond MEMORY");
        Counted x = new Counted(1);
        x.write(1020, 0, RETURN, 1, END);
        due("END is the last byte", x.make(1020), 2);
        x.write(1020, 0, SET, G0, 1);
        due("its first byte", x.make(1020), BAD);
        due("place", x.place(), 4);
        x.write(1020, 0, RETURN, 1, RETURN);
        due("its second byte", x.make(1020), BAD);
        due("place", x.place(), 3);
        x.write(1020, 0, ADD, G0, 1);
        due("its last byte", x.make(1020), BAD);
        due("place", x.place(), 1);
    }

    private static void eachOffsetIsOneOfThese() {
        sentence("each t the OFFSET of one of these");
        int[][] heads = {{JUMP}, {IF_LESS, 0, 1}, {IF_ALIKE, 0, 1}, {CATCH}};
        for (int[] head : heads) {
            int length = head.length + 1;
            due("the first", placeOfOffset(head, 1), NONE);
            due("itself", placeOfOffset(head, 4), NONE);
            due("its second byte", placeOfOffset(head, 5), 4);
            due("END", placeOfOffset(head, 4 + length), NONE);
            due("behind END", placeOfOffset(head, 5 + length), 4);
            due("within the first", placeOfOffset(head, 2), 4);
            due("far behind", placeOfOffset(head, 255), 4);
            due("0", placeOfOffset(head, 0), head[0] == CATCH ? NONE : 4);
        }
        // Those that jump are themselves jumped to, from behind and from in front.
        due("jumps to jumps", placeOf(routine(0, JUMP, 7, JUMP, 1, JUMP, 3, JUMP, 5, END)), NONE);
        Counted x = new Counted(1);
        x.write(0, 0, JUMP, 9, JUMP, 11, JUMP, 3, RETURN, 7, JUMP, 5, RETURN, 44, END);
        due("made", x.make(0), 7);
        due("goes from one to the next", x.call(0, 0), 0);
        due("value", x.result(), 44);
        due("steps, all made ones", x.count(MADE_STEPS), 5);
        // What is the index of an INSTRUCTION is not its OFFSET.
        due("an index", placeOf(routine(0, JUMP, 1, JUMP, 2, END)), 3);
    }

    private static int placeOfOffset(int[] head, int t) {
        Counted x = new Counted(1);
        x.write(0, 0, SET, G0, 1);
        x.write(4, head);
        x.write(4 + head.length, t, END, END);
        int answer = x.make(0);
        due("made or not", answer, x.place() == NONE ? 3 : BAD);
        return x.place();
    }

    private static void catch0CanBeMade() {
        sentence("(of CATCH 0, too)");
        due("CATCH", makes(routine(0, CATCH, 0, END)), 2);
        due("JUMP", makes(routine(0, JUMP, 0, END)), BAD);
        due("if less", makes(routine(0, IF_LESS, 0, 0, 0, END)), BAD);
        due("if alike", makes(routine(0, IF_ALIKE, 0, 0, 0, END)), BAD);
    }

    private static void pagesFromTheAddressToTheEnd() {
        sentence("Its PAGES are all from its ADDRESS to the END");
        due("END is the last byte of page 0", droppedByPages(60, RETURN, 0, END), 0b001);
        due("END is the first of page 1", droppedByPages(60, SET, G0, 1, END), 0b011);
        due("its address is the first of page 1", droppedByPages(64, END), 0b010);
        due("its address is the last of page 0", droppedByPages(60, END), 0b001);
        Counted x = new Counted(1);
        x.write(60, 0);
        for (int at = 61; at < 61 + 8 * 9; at += 8) {
            x.write(at, filling(8));
        }
        x.poke(133, END);
        for (int page = 0; page <= 3; page++) {
            due("made", x.make(60) > 0 || page == 3 ? 1 : 0, 1);
            due("page " + page, x.drop(page), page < 3 ? 1 : 0);
        }
    }

    /** Which of the pages 0, 1 and 2 are those of a routine, as bits. */
    private static int droppedByPages(int address, int... instructions) {
        int bits = 0;
        for (int page = 0; page < 3; page++) {
            Counted x = new Counted(1);
            x.poke(address, 0);
            x.write(address + 1, instructions);
            due("made", x.make(address) > 0 ? 1 : 0, 1);
            bits |= x.drop(page) << page;
        }
        return bits;
    }

    private static void mostAreKept() {
        sentence("MOST are KEPT");
        for (int most = 1; most <= 20; most++) {
            due("of " + most + " as many", keptOf(most, most), most);
            due("of one more", keptOf(most, most + 1), most);
        }
    }

    private static int keptOf(int most, int makes) {
        Counted x = new Counted(most);
        for (int i = 0; i < makes; i++) {
            x.poke(8 * i + 1, END);
        }
        for (int i = 0; i < makes; i++) {
            due("made", x.make(8 * i), 1);
        }
        int n = 0;
        while (n < 30 && x.kept(n) != NONE) {
            n++;
        }
        return n;
    }

    private static void oneMoreIsMade() {
        sentence("when one more is MADE the one made first is DROPPED");
        Counted x = new Counted(3);
        for (int i = 0; i < 5; i++) {
            x.poke(64 * i + 1, END);
        }
        x.make(128);
        x.make(0);
        x.make(64);
        due("none is dropped", x.count(DROPPED), 0);
        due("one more", x.make(192), 1);
        due("one is dropped", x.count(DROPPED), 1);
        keptAre(x, 0, 64, 192);
        due("one more", x.make(128), 1);
        keptAre(x, 64, 192, 128);
        due("refused ones drop none", x.make(320), BAD);
        due("nor here", x.make(64), STATE);
        keptAre(x, 64, 192, 128);
        Counted y = new Counted(1);
        y.poke(1, END);
        y.poke(65, END);
        y.make(0);
        due("of one", y.make(64), 1);
        keptAre(y, 64);
    }

    // ---- Terms: DROPPED ----

    private static void dropping() {
        aByteThatBecomesAnother();
        byWhatever();
        ofWhichAPage();
        goesByThat();
        droppedUnderWay();
        droppedWhileItWaits();
        droppedWhileItWaitsAndCatches();
        droppedWithAllThatGoByIt();
        behindTheInstructionThatIsDone();
        madeStepsAsTheyBegin();
        notMadeAgainUnderWay();
    }

    private static void aByteThatBecomesAnother() {
        sentence("of which a PAGE has a byte that becomes another one");
        Counted x = new Counted(1);
        x.write(0, 0, STORE, 60, 7, STORE, 60, G0, END);
        x.poke(60, 7);
        x.global(0, 7 + 256);
        x.make(0);
        due("the same by poke", x.poke(60, 7), 7);
        due("the same lowest bits", x.poke(60, 7 - 256), 7);
        due("the same by feed", x.feed(59, 2, 0x0007L), 0);
        due("the same by STORE", x.call(0, 0), 0);
        due("the same by STORE of a walk", x.walk(0, 0), 0);
        keptAre(x, 0);
        due("none is dropped", x.count(DROPPED), 0);
        x.poke(60, 6);
        due("another one", x.count(DROPPED), 1);
    }

    private static void byWhatever() {
        sentence("by whatever");
        for (int way = 0; way < 4; way++) {
            Counted x = new Counted(1);
            x.write(0, 0, END);
            x.write(64, 0, STORE, 63, 5, END);
            x.make(0);
            switch (way) {
                case 0: x.poke(63, 5); break;
                case 1: due("feed", x.feed(60, 8, 0x0000000500030000L + 0x0800L), 1); break;
                case 2: due("call", x.call(64, 0), 0); break;
                default: due("walk", x.walk(64, 0), 0); break;
            }
            due("way " + way, x.kept(0), NONE);
            due("counted", x.count(DROPPED), 1);
        }
    }

    private static void ofWhichAPage() {
        sentence("DROPPED are those KEPT of which a PAGE has a byte");
        Counted x = new Counted(5);
        x.write(0, 0, END);
        x.write(8, 0, END);
        x.write(60, 0, SET, G0, 1, END);
        x.write(72, 0, END);
        x.write(128, 0, END);
        x.make(72);
        x.make(0);
        x.make(60);
        x.make(128);
        x.make(8);
        due("another page", x.poke(192, 1), 0);
        keptAre(x, 72, 0, 60, 128, 8);
        due("page 0", x.poke(20, 1), 0);
        keptAre(x, 72, 128);
        due("three", x.count(DROPPED), 3);
        due("made again", x.make(60), 2);
        due("page 1", x.poke(127, 1), 0);
        keptAre(x, 128);
    }

    private static void goesByThat() {
        sentence("A CALL of an ADDRESS of which a MADE one is KEPT goes by that");
        Counted x = new Counted(2);
        x.write(0, 0, CALL, G0, 16, 0, END);
        x.write(64, 0, CALL, G0, 32, 0, END);
        x.write(128, 0, END);
        x.make(64);
        due("made by a walked one", x.call(0, 0), 0);
        due("its steps", x.count(MADE_STEPS), 2);
        due("its call", x.count(MADE_CALLS), 1);
        x.make(0);
        x.drop(1);
        due("a walked one by a made one", x.call(0, 0), 0);
        due("its steps", x.count(MADE_STEPS), 4);
        due("its call", x.count(MADE_CALLS), 2);
        due("all steps", x.count(STEPS), 10);
        due("all calls", x.count(CALLS), 6);
    }

    private static void droppedUnderWay() {
        sentence("When it is DROPPED while it is under way, it goes on .. by the WALKER");
        Counted x = new Counted(1);
        // RETURN 1 becomes RETURN 2 by the STORE in front of it.
        x.write(0, 0, STORE, 5, 2, RETURN, 1, END);
        x.make(0);
        due("call", x.call(0, 0), 0);
        due("what stands in MEMORY", x.result(), 2);
        due("dropped", x.count(DROPPED), 1);
        // The instruction behind it becomes one of another length.
        x.write(0, 0, STORE, 4, END, SET, G0, 5, RETURN, 8, END);
        x.make(0);
        due("call", x.call(0, 0), 0);
        due("END", x.result(), 0);
        due("not done", x.global(0, 0), 0);
        // It becomes BAD.
        x.write(0, 0, STORE, 4, 99, RETURN, 8, END);
        x.make(0);
        due("call", x.call(0, 0), BAD_CODE);
        due("offset", x.fault(1), 4);
        // A jump to what was no INSTRUCTION when it was made.
        x.write(0, 0, STORE, 5, 8, JUMP, 6, RETURN, 0, RETURN, 3, END);
        x.make(0);
        due("call", x.call(0, 0), 0);
        due("RETURN 3", x.result(), 3);
    }

    private static void droppedWhileItWaits() {
        sentence("DROPPED while it is under way (it waits for a CALL)");
        Counted x = new Counted(2);
        x.write(0, 1, CALL, L0, 16, 0, RETURN, L0, END);
        x.write(64, 0, STORE, 6, 77, RETURN, 5, END);
        x.make(0);
        x.make(64);
        due("call", x.call(0, 0), 0);
        due("what stands in MEMORY", x.result(), 77);
        due("made steps", x.count(MADE_STEPS), 3);
        due("steps", x.count(STEPS), 4);
        // The CALL itself changes while it is done: its d is the one that was read.
        x.write(0, 2, CALL, L0, 16, 0, RETURN, L0, END);
        x.write(64, 0, STORE, 2, G0, RETURN, 5, END);
        x.global(0, L1);
        x.make(0);
        due("call", x.call(0, 0), 0);
        due("the d that was read", x.result(), 5);
        x.poke(2, L0);
        due("walk", x.walk(0, 0), 0);
        due("likewise", x.result(), 5);
    }

    private static void droppedWhileItWaitsAndCatches() {
        sentence("DROPPED while it is under way (it catches)");
        Counted x = new Counted(2);
        x.write(0, 1, CATCH, 9, CALL, L0, 16, 0, RETURN, L0, RETURN, 1, END);
        x.write(64, 0, STORE, 10, 78, THROW, 4, END);
        x.make(0);
        x.make(64);
        due("call", x.call(0, 0), 0);
        due("at t by the WALKER", x.result(), 78);
        due("made steps", x.count(MADE_STEPS), 4);
        due("steps", x.count(STEPS), 5);
        due("caught", x.count(CAUGHT), 1);
    }

    private static void droppedWithAllThatGoByIt() {
        sentence("DROPPED while it is under way (several times at once)");
        Counted x = new Counted(1);
        // It calls itself until its local is 0; the last one changes the RETURN of all.
        x.write(0, 1, IF_ALIKE, L0, 0, 16, LESS, L0, L0, 1, CALL, L0, 0, 1, L0, RETURN, 1);
        x.write(16, STORE, 15, 6, RETURN, 0, END);
        due("made", x.make(0), 7);
        x.argument(0, 2);
        due("call", x.call(0, 1), 0);
        due("value", x.result(), 6);
        due("made steps", x.count(MADE_STEPS), 3 + 3 + 2);
        due("steps", x.count(STEPS), 3 + 3 + 2 + 1 + 1 + 1);
    }

    private static void behindTheInstructionThatIsDone() {
        sentence("behind the INSTRUCTION that is done then");
        Counted x = new Counted(1);
        // The STORE changes its own bytes: it is done as it was read, once.
        x.write(0, 0, STORE, 2, 3, SET, G0, 1, RETURN, 9, END);
        x.make(0);
        due("call", x.call(0, 0), 0);
        due("goes on behind it", x.global(0, 0), 1);
        due("value", x.result(), 9);
        due("the byte", x.peek(2), 3);
        due("steps", x.count(STEPS), 3);
        // It makes itself a longer one: what is behind is where it ended as it was read.
        x.write(0, 0, STORE, 1, ADD, SET, G0, 2, RETURN, 8, END);
        x.make(0);
        due("call", x.call(0, 0), 0);
        due("goes on behind it", x.global(0, 0), 2);
        due("value", x.result(), 8);
    }

    private static void madeStepsAsTheyBegin() {
        sentence("A STEP is a MADE one, if its ROUTINE goes by a MADE one that is KEPT as it begins");
        Counted x = new Counted(1);
        x.write(0, 0, SET, G0, 1, STORE, 60, 2, SET, G0, 3, END);
        x.make(0);
        due("call", x.call(0, 0), 0);
        due("the one that drops it is one", x.count(MADE_STEPS), 2);
        due("of", x.count(STEPS), 4);
        x.make(0);
        due("walk", x.walk(0, 0), 0);
        due("none of a walk", x.count(MADE_STEPS), 2);
        due("call", x.call(0, 0), 0);
        due("all", x.count(MADE_STEPS), 6);
        x.write(64, 0, OVER, G0, 1, 0, END);
        x.drop(0);
        x.make(64);
        due("a fault", x.call(64, 0), ZERO);
        due("has begun", x.count(MADE_STEPS), 7);
    }

    private static void notMadeAgainUnderWay() {
        sentence("as others go: by the WALKER, who reads what stands in MEMORY");
        Counted x = new Counted(1);
        // The byte is changed and changed back: it is dropped all the same.
        x.write(0, 0, STORE, 60, 2, STORE, 60, 0, SET, G0, 3, END);
        x.make(0);
        due("call", x.call(0, 0), 0);
        due("made steps", x.count(MADE_STEPS), 1);
        due("none is kept", x.kept(0), NONE);
        // A CALL of it behind that is one by the WALKER, too.
        x.write(0, 1, STORE, 60, 5, IF_ALIKE, L0, 1, 13, CALL, G0, 0, 1, 1, END);
        due("made", x.make(0), 4);
        due("call", x.call(0, 0), 0);
        due("calls by a MADE one", x.count(MADE_CALLS), 2);
        due("calls", x.count(CALLS), 3);
    }

    // ---- Terms: REFUSALS ----

    private static void refusals() {
        ofSeveralTheFirstOne();
        refusedMakesChangeNothing();
        refusedCallsChangeNothing();
        otherRefusedOnesChangeNothing();
    }

    private static void ofSeveralTheFirstOne() {
        sentence("REFUSALS, of several the first one: BAD .., STATE, FULL");
        Counted x = new Counted(0);
        due("no address, MOST 0", x.make(2), BAD);
        due("can't be, MOST 0", x.make(0), BAD);
        due("place of it", x.place(), 121);
        x.poke(64, 9);
        due("no routine, MOST 0", x.make(64), BAD);
        x.poke(1, END);
        due("FULL alone", x.make(0), FULL);
        Counted y = new Counted(1);
        y.poke(1, END);
        y.make(0);
        due("STATE, as many as MOST", y.make(0), STATE);
    }

    private static void refusedMakesChangeNothing() {
        sentence("They change nothing (but place(), as told) (of make)");
        Counted x = new Counted(1);
        x.write(0, 0, END);
        x.write(64, 0, 16);
        x.write(128, 9);
        x.make(0);
        int[] answers = {x.make(0), x.make(64), x.make(128), x.make(3), x.make(-4)};
        int[] due = {STATE, BAD, BAD, BAD, BAD};
        for (int i = 0; i < due.length; i++) {
            due("refused", answers[i], due[i]);
        }
        keptAre(x, 0);
        due("made", x.count(MADE), 1);
        due("dropped", x.count(DROPPED), 0);
        due("the kept one is whole", x.call(0, 0), 0);
        due("it is gone by", x.count(MADE_STEPS), 1);
        Counted y = new Counted(0);
        y.poke(1, END);
        due("FULL", y.make(0), FULL);
        due("made", y.count(MADE), 0);
        due("dropped", y.count(DROPPED), 0);
    }

    private static void refusedCallsChangeNothing() {
        sentence("They change nothing (of call and walk)");
        Counted x = new Counted(1);
        x.write(0, 1, THROW, L0, END);
        x.argument(0, 6);
        due("thrown", x.call(0, 1), THROWN);
        due("n", x.call(0, 5), BAD);
        due("address", x.walk(1, 1), BAD);
        due("told", x.fault(2), 6);
        due("told", x.fault(1), 1);
        due("faults", x.count(FAULTS), 1);
        due("steps", x.count(STEPS), 1);
        due("calls", x.count(CALLS), 1);
        x.write(0, 1, RETURN, L0, END);
        due("value", x.call(0, 1), 0);
        due("n", x.walk(0, -1), BAD);
        due("address", x.call(1024, 1), BAD);
        due("result", x.result(), 6);
    }

    private static void otherRefusedOnesChangeNothing() {
        sentence("They change nothing (of feed, argument, accelerate, drop)");
        Counted x = new Counted(1);
        x.write(1016, 0, RETURN, 7, END);
        x.make(1016);
        due("feed", x.feed(1018, 8, -1L), BAD);
        due("feed", x.feed(1016, 9, -1L), BAD);
        due("feed", x.feed(1016, 0, -1L), BAD);
        due("drop", x.drop(16), BAD);
        due("drop", x.drop(-1), BAD);
        keptAre(x, 1016);
        due("the bytes are left", x.peek(1018), 7);
        due("the last, too", x.peek(1023), 0);
        due("accelerate", x.accelerate(1016, 5), BAD);
        due("accelerate", x.accelerate(1016, -1), BAD);
        due("by none", x.accelerate(1016, 0), 0);
        x.argument(3, 30);
        x.argument(0, 31);
        due("argument", x.argument(4, 9), BAD);
        due("argument", x.argument(-1, 9), BAD);
        x.write(0, 4, LESS, G0, L3, L0, RETURN, G0);
        due("call", x.call(0, 4), 0);
        due("the arguments are left", x.result(), -1);
    }

    // ---- Promises 1 to 7 ----

    private static void promisesOneToSeven() {
        nothingIsMade();
        mostIsTheNearest();
        pokeTakesTheLowestEightBits();
        pokeTellsWhatItWas();
        pokeThrows();
        feedTakesTheLowestBytes();
        feedTellsHowManyWereDropped();
        feedRefusesN();
        feedRefusesWhereThereAreNotSoMany();
        peekIsNotNegative();
        peekThrows();
        globalTellsWhatItWas();
        globalThrows();
        makeTellsHowMany();
        makeIsBadOfNoRoutine();
        placeOfTheFirstThatCantBe();
        placeOfThe61st();
        placeOfTheFirstOffset();
        stateWhenOneIsKept();
        fullWhenMostIs0();
        placeOfTheLatestMake();
    }

    private static void nothingIsMade() {
        sentence("1: MEMORY of 0; nothing is MADE");
        Counted x = new Counted(20);
        due("kept", x.kept(0), NONE);
        for (int what = 0; what < 8; what++) {
            due("count " + what, x.count(what), 0);
        }
        for (int page = 0; page < 16; page++) {
            due("drop", x.drop(page), 0);
        }
        for (int address = 0; address <= 1020; address += 4) {
            due("accelerated", x.accelerate(address, 0), 0);
        }
    }

    private static void mostIsTheNearest() {
        sentence("1: MOST (0 .. 20, the nearest)");
        int[] most = {LEAST, -1, 0, 1, 19, 20, 21, GREATEST};
        int[] kept = {0, 0, 0, 1, 19, 20, 20, 20};
        for (int i = 0; i < most.length; i++) {
            Counted x = new Counted(most[i]);
            for (int k = 0; k < 22; k++) {
                x.poke(8 * k + 1, END);
            }
            for (int k = 0; k < 22; k++) {
                due("make", x.make(8 * k), kept[i] == 0 ? FULL : 1);
            }
            int n = 0;
            while (n < 30 && x.kept(n) != NONE) {
                n++;
            }
            due("MOST of " + most[i], n, kept[i]);
        }
    }

    private static void pokeTakesTheLowestEightBits() {
        sentence("2: A byte becomes the lowest 8 bits of v");
        int[] values = {0, 127, 128, 255, 256, 511, -1, -128, -256, LEAST, GREATEST};
        int[] bytes = {0, 127, 128, 255, 0, 255, 255, 128, 0, 0, 255};
        Counted x = new Counted(1);
        for (int i = 0; i < values.length; i++) {
            x.poke(500, values[i]);
            due("of " + values[i], x.peek(500), bytes[i]);
        }
        due("its neighbours are left", x.peek(499) + x.peek(501), 0);
    }

    private static void pokeTellsWhatItWas() {
        sentence("2: what it was");
        Counted x = new Counted(1);
        due("0", x.poke(9, -1), 0);
        due("255, not -1", x.poke(9, 128), 255);
        due("128, not -128", x.poke(9, 128), 128);
        due("128", x.poke(9, 0), 128);
    }

    private static void pokeThrows() {
        sentence("2: ArrayIndexOutOfBoundsException: there is none");
        Counted x = new Counted(1);
        x.poke(0, 1);
        x.poke(1023, 2);
        for (int place : new int[] {-1, 1024, -1024, 2047, LEAST, GREATEST}) {
            due("poke " + place, throwsAtPoke(x, place), 1);
        }
        due("nothing was changed", x.peek(0), 1);
        due("nor there", x.peek(1023), 2);
    }

    private static void feedTakesTheLowestBytes() {
        sentence("3: n bytes .. become those of w (its n lowest, the highest first)");
        for (int n = 1; n <= 8; n++) {
            Counted x = new Counted(1);
            due("feed", x.feed(100, n, 0x8192A3B4C5D6E7F8L), 0);
            for (int i = 0; i < n; i++) {
                int due = (int) (0x8192A3B4C5D6E7F8L >>> 8 * (n - 1 - i)) & 255;
                due("byte " + i + " of " + n, x.peek(100 + i), due);
            }
            due("ahead", x.peek(99), 0);
            due("behind", x.peek(100 + n), 0);
        }
    }

    private static void feedTellsHowManyWereDropped() {
        sentence("3: how many were DROPPED by that");
        Counted x = new Counted(5);
        x.write(56, 0, END);
        x.write(48, 0, END);
        x.write(64, 0, END);
        x.write(128, 0, END);
        x.make(48);
        x.make(56);
        x.make(64);
        x.make(128);
        due("none: the same bytes", x.feed(60, 8, 0x00000000000F0000L), 0);
        keptAre(x, 48, 56, 64, 128);
        due("one byte of page 1", x.feed(60, 8, 0x00000000000F0001L), 1);
        keptAre(x, 48, 56, 128);
        x.make(64);
        due("both pages", x.feed(60, 8, 0x01010101000F0101L), 3);
        keptAre(x, 128);
        due("none is left there", x.feed(60, 8, 0L), 0);
        due("ever", x.count(DROPPED), 4);
    }

    private static void feedRefusesN() {
        sentence("3: BAD: n is not 1 .. 8");
        Counted x = new Counted(1);
        for (int n : new int[] {LEAST, -8, -1, 0, 9, 16, GREATEST}) {
            due("n " + n, x.feed(100, n, -1L), BAD);
        }
        due("nothing was changed", x.peek(100), 0);
        due("1", x.feed(100, 1, -1L), 0);
        due("8", x.feed(100, 8, -1L), 0);
    }

    private static void feedRefusesWhereThereAreNotSoMany() {
        sentence("3: BAD: .. or there are not so many");
        for (int n = 1; n <= 8; n++) {
            Counted x = new Counted(1);
            due("one too few", x.feed(1024 - n + 1, n, -1L), BAD);
            due("nothing was changed", x.peek(1023), 0);
            due("just so many", x.feed(1024 - n, n, -1L), 0);
            due("the last", x.peek(1023), 255);
            due("the first", x.peek(1024 - n), 255);
            due("ahead of all", x.feed(-1, n, -1L), BAD);
            due("nothing was changed", x.peek(0), 0);
            due("at 0", x.feed(0, n, -1L), 0);
            due("the least", x.feed(LEAST, n, -1L), BAD);
            due("the greatest", x.feed(GREATEST, n, -1L), BAD);
        }
    }

    private static void peekIsNotNegative() {
        sentence("4: A byte, 0 .. 255");
        Counted x = new Counted(1);
        for (int v : new int[] {0, 1, 127, 128, 255}) {
            x.poke(77, v);
            due("peek", x.peek(77), v);
            due("and again", x.peek(77), v);
        }
    }

    private static void peekThrows() {
        sentence("4: ArrayIndexOutOfBoundsException likewise");
        Counted x = new Counted(1);
        for (int place : new int[] {-1, 1024, -1024, 2047, LEAST, GREATEST}) {
            due("peek " + place, throwsAtPeek(x, place), 1);
        }
        due("0", throwsAtPeek(x, 0), 0);
        due("1023", throwsAtPeek(x, 1023), 0);
    }

    private static void globalTellsWhatItWas() {
        sentence("5: GLOBAL g becomes v: what it was");
        Counted x = new Counted(1);
        for (int g = 0; g < 8; g++) {
            due("0", x.global(g, LEAST + g), 0);
        }
        for (int g = 0; g < 8; g++) {
            due("the least and so on", x.global(g, GREATEST - g), LEAST + g);
            due("the greatest and so on", x.global(g, 0), GREATEST - g);
        }
    }

    private static void globalThrows() {
        sentence("5: ArrayIndexOutOfBoundsException: there is none");
        Counted x = new Counted(1);
        for (int g : new int[] {-1, 8, 9, 136, LEAST, GREATEST}) {
            due("global " + g, throwsAtGlobal(x, g), 1);
        }
        for (int g = 0; g < 8; g++) {
            due("nothing was changed", x.global(g, 0), 0);
        }
    }

    private static void makeTellsHowMany() {
        sentence("6: The ROUTINE at an ADDRESS is MADE: how many INSTRUCTIONS");
        Counted x = new Counted(2);
        x.write(0, 0, END);
        x.write(64, many(60));
        due("1", x.make(0), 1);
        due("60", x.make(64), 60);
        keptAre(x, 0, 64);
    }

    private static void makeIsBadOfNoRoutine() {
        sentence("6: BAD: no ADDRESS, no ROUTINE there (.. NONE, when it is no ROUTINE)");
        Counted x = new Counted(2);
        x.write(0, 0, 16);
        for (int address : new int[] {1, 2, 3, -4, 1024, 1028, LEAST, GREATEST}) {
            due("can't be", x.make(0), BAD);
            due("place", x.place(), 1);
            due("no address " + address, x.make(address), BAD);
            due("place", x.place(), NONE);
        }
        x.write(64, 9, 16);
        due("can't be", x.make(0), BAD);
        due("no routine", x.make(64), BAD);
        due("place", x.place(), NONE);
        x.poke(64, 8);
        due("a routine", x.make(64), BAD);
        due("place", x.place(), 1);
    }

    private static void placeOfTheFirstThatCantBe() {
        sentence("6: the OFFSET of the first INSTRUCTION that can't be then, as it is read");
        due("the first of two", placeOf(routine(0, RETURN, 1, 16, 17, END)), 3);
        due("ahead of a wrong t in front", placeOf(routine(0, JUMP, 2, RETURN, 144, END)), 3);
        due("ahead of a wrong t behind", placeOf(routine(0, RETURN, 144, JUMP, 2, END)), 1);
        Counted x = new Counted(1);
        x.write(1016, 0, JUMP, 2, SET, G0, 1, SET, G0);
        due("beyond MEMORY", x.make(1016), BAD);
        due("ahead of a wrong t", x.place(), 6);
    }

    private static void placeOfThe61st() {
        sentence("6: (the 61st, too)");
        Counted x = new Counted(1);
        due("RETURN 0 everywhere", x.make(0), BAD);
        due("place", x.place(), 121);
        x.poke(121, END);
        due("END is the 61st", x.make(0), BAD);
        due("place", x.place(), 121);
        x.poke(121, 16);
        due("the 61st is BAD", x.make(0), BAD);
        due("place", x.place(), 121);
        x.poke(1, JUMP);
        x.poke(2, 2);
        due("ahead of a wrong t", x.make(0), BAD);
        due("place", x.place(), 121);
        x.poke(119, 16);
        due("the 60th is BAD", x.make(0), BAD);
        due("place", x.place(), 119);
        Counted y = new Counted(1);
        // 57 times RETURN 0 and 3 times SET: the 60th ends with MEMORY.
        y.write(1015, SET, G0, 1, SET, G0, 1, SET, G0, 1);
        due("the 61st lies beyond MEMORY", y.make(900), BAD);
        due("place", y.place(), 124);
    }

    private static void placeOfTheFirstOffset() {
        sentence("6: else of the first one whose t is none");
        due("the first of two", placeOf(routine(0, JUMP, 1, JUMP, 2, CATCH, 2, END)), 3);
        due("if less", placeOf(routine(0, RETURN, 0, IF_LESS, 0, 0, 2, END)), 3);
        due("if alike", placeOf(routine(0, RETURN, 0, IF_ALIKE, 0, 0, 2, END)), 3);
        due("CATCH", placeOf(routine(0, RETURN, 0, CATCH, 2, JUMP, 2, END)), 3);
        due("none", placeOf(routine(0, JUMP, 1, CATCH, 0, END)), NONE);
    }

    private static void stateWhenOneIsKept() {
        sentence("6: STATE: one of it is KEPT");
        Counted x = new Counted(2);
        x.poke(1, END);
        due("made", x.make(0), 1);
        due("kept", x.make(0), STATE);
        due("place", x.place(), NONE);
        x.drop(0);
        due("dropped", x.make(0), 1);
        x.poke(65, END);
        x.poke(129, END);
        x.make(64);
        x.make(128);
        due("dropped for another one", x.make(0), 1);
        due("the latest", x.make(128), STATE);
    }

    private static void fullWhenMostIs0() {
        sentence("6: FULL: MOST is 0");
        for (int most : new int[] {0, -1, LEAST}) {
            Counted x = new Counted(most);
            x.poke(1, END);
            due("most " + most, x.make(0), FULL);
            due("place", x.place(), NONE);
            due("kept", x.kept(0), NONE);
        }
        Counted y = new Counted(1);
        y.poke(1, END);
        due("most 1", y.make(0), 1);
    }

    private static void placeOfTheLatestMake() {
        sentence("7: NONE: it was not BAD by an INSTRUCTION, or there was none");
        Counted x = new Counted(1);
        due("there was none", x.place(), NONE);
        x.write(0, 0, 16);
        x.write(64, 0, END);
        int[] others = {64, 64, 2, 1024};
        int[] answers = {1, STATE, BAD, BAD};
        for (int i = 0; i < others.length; i++) {
            due("BAD", x.make(0), BAD);
            due("by an INSTRUCTION", x.place(), 1);
            due("asked again", x.place(), 1);
            due("another make", x.make(others[i]), answers[i]);
            due("not by one", x.place(), NONE);
        }
        due("BAD", x.make(0), BAD);
        x.call(64, 0);
        x.poke(1, END);
        x.drop(0);
        due("other calls leave it", x.place(), 1);
        Counted y = new Counted(0);
        y.write(0, 0, 16);
        due("BAD", y.make(0), BAD);
        due("by an INSTRUCTION", y.place(), 1);
        y.poke(1, END);
        due("FULL", y.make(0), FULL);
        due("not by one", y.place(), NONE);
    }

    // ---- Promises 8 to 12 ----

    private static void promisesEightToTwelve() {
        argumentsUpToThree();
        callAnswers();
        callRefusesN();
        fiveHundredFaults();
        lessThanFiveHundredFaults();
        walkGoesByNoMadeOne();
        walkIsLikewise();
        resultOfTheLatest();
        faultOfTheLatest();
        faultRefusesWhat();
    }

    private static void argumentsUpToThree() {
        sentence("8: ARGUMENT i (0 .. 3) becomes v: 1. BAD.");
        Counted x = new Counted(1);
        for (int i = 0; i < 4; i++) {
            due("argument " + i, x.argument(i, LEAST + i), 1);
        }
        for (int i : new int[] {-1, 4, LEAST, GREATEST}) {
            due("argument " + i, x.argument(i, 5), BAD);
        }
        for (int i = 0; i < 4; i++) {
            x.write(0, 4, RETURN, L0 + i);
            due("call", x.call(0, 4), 0);
            due("it stays", x.result(), LEAST + i);
        }
        Counted y = new Counted(1);
        y.write(0, 4, RETURN, L3);
        due("call", y.call(0, 4), 0);
        due("0 at first", y.result(), 0);
    }

    private static void callAnswers() {
        sentence("9: 0, or -10 less the FAULT");
        due("0", answer(routine(0, RETURN, 5)), 0);
        due("ZERO", answer(routine(0, REST, G0, 1, 0)), -10 - 2);
        Counted x = new Counted(1);
        x.write(0, 0, RETURN, 5);
        due("a number n that is more than it has", x.call(0, 4), 0);
        due("value", x.result(), 5);
    }

    private static void callRefusesN() {
        sentence("9: BAD: n is not 0 .. 4");
        Counted x = new Counted(1);
        x.accelerate(64, 3);
        for (int i = 0; i < 4; i++) {
            x.argument(i, 1);
        }
        for (int n = 0; n <= 4; n++) {
            due("call", x.call(64, n), 0);
            due("the first " + n, x.result(), n);
            due("walk", x.walk(64, n), 0);
            due("the first " + n, x.result(), n);
        }
        for (int n : new int[] {-1, 5, LEAST, GREATEST}) {
            due("call", x.call(64, n), BAD);
            due("walk", x.walk(64, n), BAD);
        }
    }

    private static void fiveHundredFaults() {
        sentence("9: FULL: 500 FAULTS came ever");
        Counted x = new Counted(1);
        x.poke(0, 9);
        for (int i = 0; i < 500; i++) {
            due("fault " + i, i % 2 == 0 ? x.call(0, 0) : x.walk(0, 0), NO_ROUTINE);
        }
        due("call", x.call(4, 0), FULL);
        due("walk", x.walk(4, 0), FULL);
        due("BAD ahead of it", x.call(4, 5), BAD);
        due("BAD ahead of it", x.walk(2, 0), BAD);
        due("told", x.fault(0), 0);
        due("faults", x.count(FAULTS), 500);
        due("no call", x.count(CALLS), 0);
        due("others go on", x.poke(0, 0), 9);
    }

    private static void lessThanFiveHundredFaults() {
        sentence("9: 500 FAULTS (499 are not so many)");
        Counted x = new Counted(1);
        x.poke(0, 9);
        for (int i = 0; i < 499; i++) {
            x.call(0, 0);
        }
        due("refused ones are none", x.call(0, 5), BAD);
        due("call", x.call(4, 0), 0);
        due("walk", x.walk(4, 0), 0);
        due("the 500th", x.walk(0, 0), NO_ROUTINE);
        due("FULL", x.walk(4, 0), FULL);
    }

    private static void walkGoesByNoMadeOne() {
        sentence("10: by the WALKER alone (no MADE one is gone by)");
        Counted x = new Counted(2);
        x.write(0, 1, CALL, L0, 16, 0, RETURN, L0, END);
        x.write(64, 0, RETURN, 8, END);
        x.make(0);
        x.make(64);
        due("walk", x.walk(0, 0), 0);
        due("value", x.result(), 8);
        due("made steps", x.count(MADE_STEPS), 0);
        due("made calls", x.count(MADE_CALLS), 0);
        due("calls", x.count(CALLS), 2);
        due("steps", x.count(STEPS), 3);
        keptAre(x, 0, 64);
        due("call", x.call(0, 0), 0);
        due("made steps", x.count(MADE_STEPS), 3);
        due("made calls", x.count(MADE_CALLS), 2);
    }

    private static void walkIsLikewise() {
        sentence("10: Likewise");
        Counted x = new Counted(1);
        x.write(0, 1, RETURN, L0, END);
        x.argument(0, 17);
        due("walk", x.walk(0, 1), 0);
        due("value", x.result(), 17);
        due("without", x.walk(0, 0), 0);
        due("value", x.result(), 0);
        refusesAddress(x, 1022);
        x.accelerate(0, 3);
        due("accelerated", x.walk(0, 1), 0);
        due("value", x.result(), 1);
        x.write(64, 0, THROW, 9);
        due("thrown", x.walk(64, 0), THROWN);
        due("number", x.fault(2), 9);
    }

    private static void resultOfTheLatest() {
        sentence("11: 0: it had a FAULT, or there was none");
        Counted x = new Counted(1);
        due("there was none", x.result(), 0);
        x.write(0, 0, RETURN, 5);
        x.write(64, 0, 16);
        due("refused", x.call(0, 5), BAD);
        due("there was none", x.result(), 0);
        due("call", x.call(0, 0), 0);
        due("value", x.result(), 5);
        due("asked again", x.result(), 5);
        due("refused", x.walk(3, 0), BAD);
        due("it was not refused", x.result(), 5);
        due("fault", x.walk(64, 0), BAD_CODE);
        due("it had a FAULT", x.result(), 0);
        due("walk", x.walk(0, 0), 0);
        due("value", x.result(), 5);
    }

    private static void faultOfTheLatest() {
        sentence("12: NONE: it had none (of 0, 1; of 2: 0)");
        Counted x = new Counted(1);
        x.write(0, 0, RETURN, 5);
        x.write(64, 0, THROW, 9);
        x.write(128, 0, 16);
        faultIs(x, NONE, NONE, 0);
        due("thrown", x.call(64, 0), THROWN);
        faultIs(x, 64, 1, 9);
        due("refused", x.call(64, 5), BAD);
        faultIs(x, 64, 1, 9);
        due("BAD", x.walk(128, 0), BAD_CODE);
        faultIs(x, 128, 1, 0);
        due("thrown", x.walk(64, 0), THROWN);
        due("none", x.call(0, 0), 0);
        faultIs(x, NONE, NONE, 0);
    }

    private static void faultIs(Counted x, int address, int offset, int number) {
        due("address", x.fault(0), address);
        due("offset", x.fault(1), offset);
        due("number", x.fault(2), number);
    }

    private static void faultRefusesWhat() {
        sentence("12: BAD: what");
        Counted x = new Counted(1);
        for (int what : new int[] {-1, 3, 4, LEAST, GREATEST}) {
            due("what " + what, x.fault(what), BAD);
        }
    }

    // ---- Promises 13 to 16 ----

    private static void promisesThirteenToSixteen() {
        accelerateByFour();
        accelerateRefuses();
        keptAsTheyWereMade();
        keptIsNoneElsewhere();
        dropTellsHowMany();
        dropRefuses();
        countsOfWhatIsMade();
        countsOfCalls();
        countsOfThrown();
        countRefuses();
    }

    private static void accelerateByFour() {
        sentence("13: An ADDRESS is ACCELERATED by 1 .. 4, or not (0): by which it was");
        Counted x = new Counted(1);
        for (int address : new int[] {0, 4, 1016, 1020}) {
            int was = 0;
            for (int number : new int[] {1, 4, 2, 3, 3, 0, 0}) {
                due("at " + address, x.accelerate(address, number), was);
                was = number;
            }
        }
        x.accelerate(4, 1);
        due("its neighbours are not", x.accelerate(0, 0), 0);
        due("its neighbours are not", x.accelerate(8, 0), 0);
    }

    private static void accelerateRefuses() {
        sentence("13: BAD");
        Counted x = new Counted(1);
        x.accelerate(0, 2);
        for (int number : new int[] {-1, 5, LEAST, GREATEST}) {
            due("number " + number, x.accelerate(0, number), BAD);
        }
        for (int address : new int[] {1, 2, 3, -4, 1021, 1024, LEAST, GREATEST}) {
            due("address " + address, x.accelerate(address, 1), BAD);
            due("address " + address, x.accelerate(address, 0), BAD);
        }
        due("it is left", x.accelerate(0, 0), 2);
    }

    private static void keptAsTheyWereMade() {
        sentence("14: The ADDRESS of the i-th MADE one that is KEPT, as they were made");
        Counted x = new Counted(4);
        for (int i = 0; i < 4; i++) {
            x.poke(64 * i + 1, END);
        }
        x.make(192);
        x.make(0);
        x.make(128);
        x.make(64);
        keptAre(x, 192, 0, 128, 64);
        x.drop(0);
        keptAre(x, 192, 128, 64);
        x.make(0);
        keptAre(x, 192, 128, 64, 0);
        x.drop(3);
        x.drop(0);
        keptAre(x, 128, 64);
    }

    private static void keptIsNoneElsewhere() {
        sentence("14: NONE");
        Counted x = new Counted(2);
        for (int i : new int[] {-1, 0, 1, 19, 20, 21, LEAST, GREATEST}) {
            due("kept " + i, x.kept(i), NONE);
        }
        x.poke(1, END);
        x.make(0);
        for (int i : new int[] {-1, 1, 2, 20, LEAST, GREATEST}) {
            due("kept " + i, x.kept(i), NONE);
        }
        due("kept 0", x.kept(0), 0);
        x.drop(0);
        due("no more", x.kept(0), NONE);
    }

    private static void dropTellsHowMany() {
        sentence("15: Those KEPT of which a PAGE is this one are DROPPED: how many");
        Counted x = new Counted(20);
        for (int i = 0; i < 8; i++) {
            x.poke(8 * i + 1, END);
            x.make(8 * i);
        }
        due("each poke dropped those ahead of it", x.count(DROPPED), 7);
        for (int i = 0; i < 8; i++) {
            x.make(8 * i);
        }
        x.poke(961, END);
        x.make(960);
        due("none", x.drop(1), 0);
        due("eight", x.drop(0), 8);
        due("none any more", x.drop(0), 0);
        keptAre(x, 960);
        due("page 15", x.drop(15), 1);
        due("ever", x.count(DROPPED), 16);
    }

    private static void dropRefuses() {
        sentence("15: BAD");
        Counted x = new Counted(2);
        x.poke(1, END);
        x.make(0);
        for (int page : new int[] {-1, 16, 17, 64, LEAST, GREATEST}) {
            due("page " + page, x.drop(page), BAD);
        }
        keptAre(x, 0);
    }

    private static void countsOfWhatIsMade() {
        sentence("16: Ever: 0 MADE, 1 DROPPED");
        Counted x = new Counted(1);
        x.poke(1, END);
        x.poke(65, END);
        x.make(0);
        x.make(0);
        x.make(2);
        due("made", x.count(MADE), 1);
        due("dropped", x.count(DROPPED), 0);
        x.make(64);
        due("made", x.count(MADE), 2);
        due("dropped for it", x.count(DROPPED), 1);
        x.drop(1);
        due("dropped", x.count(DROPPED), 2);
        x.make(0);
        x.poke(9, 1);
        due("made", x.count(MADE), 3);
        due("dropped by poke", x.count(DROPPED), 3);
    }

    private static void countsOfCalls() {
        sentence("16: 4 CALLS (of ROUTINES), 5 of these that began by a MADE one");
        Counted x = new Counted(1);
        x.write(0, 0, CALL, G0, 16, 0, END);
        x.write(64, 0, STORE, 8, 1, END);
        x.make(0);
        due("call", x.call(0, 0), 0);
        due("two", x.count(CALLS), 2);
        due("one began by a MADE one, which was DROPPED then", x.count(MADE_CALLS), 1);
        x.poke(64, 9);
        due("NONE", x.call(0, 0), NO_ROUTINE);
        due("there is no ROUTINE", x.count(CALLS), 3);
        x.accelerate(64, 1);
        due("accelerated", x.call(0, 0), 0);
        due("that is none", x.count(CALLS), 4);
        due("accelerated", x.call(64, 0), 0);
        due("that is none", x.count(CALLS), 4);
        due("refused", x.call(0, 5), BAD);
        due("that is none", x.count(CALLS), 4);
        due("as ahead", x.count(MADE_CALLS), 1);
    }

    private static void countsOfThrown() {
        sentence("16: 6 FAULTS, 7 what was THROWN and caught");
        Counted x = new Counted(1);
        x.write(0, 0, CATCH, 7, CALL, G0, 16, 0, END);
        x.write(64, 0, THROW, 4, END);
        x.call(0, 0);
        due("caught", x.count(CAUGHT), 1);
        due("no fault", x.count(FAULTS), 0);
        x.call(64, 0);
        due("not caught", x.count(CAUGHT), 1);
        due("a fault", x.count(FAULTS), 1);
        x.poke(64, 9);
        x.walk(0, 0);
        due("another one", x.count(FAULTS), 2);
        due("is not caught", x.count(CAUGHT), 1);
    }

    private static void countRefuses() {
        sentence("16: BAD");
        Counted x = new Counted(1);
        for (int what : new int[] {-1, 8, 9, LEAST, GREATEST}) {
            due("what " + what, x.count(what), BAD);
        }
        due("0", x.count(0), 0);
        due("7", x.count(7), 0);
    }

    // ---- what the tests use ----

    /** An object of the class; the document promises nothing behind its 512th call. */
    private static final class Counted {
        private final MadeCalls x;
        private int used = 0;

        Counted(int most) {
            x = new MadeCalls(most);
        }

        private MadeCalls use() {
            used++;
            if (used == 513) {
                due("an object is used for at most 512 calls", used, 512);
            }
            return x;
        }

        int poke(int place, int v) {
            return use().poke(place, v);
        }

        int feed(int place, int n, long w) {
            return use().feed(place, n, w);
        }

        int peek(int place) {
            return use().peek(place);
        }

        int global(int g, int v) {
            return use().global(g, v);
        }

        int make(int address) {
            return use().make(address);
        }

        int place() {
            return use().place();
        }

        int argument(int i, int v) {
            return use().argument(i, v);
        }

        int call(int address, int n) {
            return use().call(address, n);
        }

        int walk(int address, int n) {
            return use().walk(address, n);
        }

        int result() {
            return use().result();
        }

        int fault(int what) {
            return use().fault(what);
        }

        int accelerate(int address, int number) {
            return use().accelerate(address, number);
        }

        int kept(int i) {
            return use().kept(i);
        }

        int drop(int page) {
            return use().drop(page);
        }

        int count(int what) {
            return use().count(what);
        }

        void write(int place, int... bytes) {
            for (int i = 0; i < bytes.length; i++) {
                poke(place + i, bytes[i]);
            }
        }
    }

    private static final class Run {
        int answer, value, address, offset, number, steps;
    }

    private static int[] routine(int locals, int... instructions) {
        int[] bytes = new int[instructions.length + 1];
        bytes[0] = locals;
        System.arraycopy(instructions, 0, bytes, 1, instructions.length);
        return bytes;
    }

    private static Run walked(int[] bytes) {
        Counted x = new Counted(1);
        x.write(0, bytes);
        return runOf(x, x.walk(0, 0));
    }

    private static Run runOf(Counted x, int answer) {
        Run run = new Run();
        run.answer = answer;
        run.value = x.result();
        run.address = x.fault(0);
        run.offset = x.fault(1);
        run.number = x.fault(2);
        run.steps = x.count(STEPS);
        return run;
    }

    /** Walks a routine at 0, calls it, makes it (if that can be) and calls it: all are alike. */
    private static Run run(int[] bytes) {
        Run run = walked(bytes);
        for (int made = 0; made < 2; made++) {
            Counted x = new Counted(1);
            x.write(0, bytes);
            if (made == 1) {
                x.poke(bytes.length, END);
                x.make(0);
            }
            Run other = runOf(x, x.call(0, 0));
            due("answer as the walker's", other.answer, run.answer);
            due("value as the walker's", other.value, run.value);
            due("address as the walker's", other.address, run.address);
            due("offset as the walker's", other.offset, run.offset);
            due("number as the walker's", other.number, run.number);
            due("steps as the walker's", other.steps, run.steps);
        }
        return run;
    }

    private static int answer(int[] bytes) {
        return run(bytes).answer;
    }

    private static int value(int[] bytes) {
        Run run = run(bytes);
        due("no fault", run.answer, 0);
        return run.value;
    }

    /** A routine of one INSTRUCTION that is BAD: it can be neither done nor made. */
    private static void isBad(int[] bytes) {
        Run run = walked(bytes);
        due("BAD", run.answer, BAD_CODE);
        due("offset", run.offset, 1);
        Counted x = new Counted(1);
        x.write(0, bytes);
        due("make", x.make(0), BAD);
        due("place", x.place(), 1);
    }

    private static int makes(int[] bytes) {
        Counted x = new Counted(1);
        x.write(0, bytes);
        int answer = x.make(0);
        due("kept", x.kept(0), answer < 0 ? NONE : 0);
        return answer;
    }

    private static int placeOf(int[] bytes) {
        Counted x = new Counted(1);
        x.write(0, bytes);
        due("BAD goes with a place", x.make(0) == BAD ? 1 : 0, x.place() == NONE ? 0 : 1);
        return x.place();
    }

    /** Walks and calls it, and once more when it was made. */
    private static void bothWays(Counted x, int address, int n, int value) {
        due("walk", x.walk(address, n), 0);
        due("its value", x.result(), value);
        due("call", x.call(address, n), 0);
        due("its value", x.result(), value);
        due("make", x.make(address) == BAD ? 1 : 0, 0);
        int made = x.count(MADE_CALLS);
        due("call of a made one", x.call(address, n), 0);
        due("its value", x.result(), value);
        due("it was one", x.count(MADE_CALLS) > made ? 1 : 0, 1);
    }

    /** What comes of v and w, walked and made. */
    private static int reckon(int code, int v, int w) {
        Counted x = new Counted(1);
        x.write(0, 2, code, L0, L0, L1, RETURN, L0, END);
        x.argument(0, v);
        x.argument(1, w);
        int walked = valueOrFault(x, x.walk(0, 2));
        x.make(0);
        due("a made one reckons alike", valueOrFault(x, x.call(0, 2)), walked);
        return walked;
    }

    private static int valueOrFault(Counted x, int answer) {
        return answer == 0 ? x.result() : answer;
    }

    /** The value of an ACCELERATED one, by call() and by a CALL; a fault's answer. */
    private static int builtIn(int number, int... arguments) {
        Counted x = new Counted(1);
        int n = arguments.length;
        x.accelerate(64, number);
        for (int i = 0; i < n; i++) {
            x.argument(i, arguments[i]);
        }
        int direct = valueOrFault(x, x.call(64, n));
        x.write(0, 4, CALL, L0, 16, n);
        for (int i = 0; i < n; i++) {
            x.poke(5 + i, L0 + i);
        }
        x.write(5 + n, RETURN, L0, END);
        due("by a CALL", valueOrFault(x, x.walk(0, n)), direct);
        x.make(0);
        due("by a made CALL", valueOrFault(x, x.call(0, n)), direct);
        return direct;
    }

    private static void keptAre(Counted x, int... addresses) {
        for (int i = 0; i < addresses.length; i++) {
            due("kept " + i, x.kept(i), addresses[i]);
        }
        due("no more is kept", x.kept(addresses.length), NONE);
    }

    /** 1: the class threw it itself; 100: the machine did, whose text begins like this. */
    private static int byThrow(ArrayIndexOutOfBoundsException e) {
        return e.getMessage() != null && e.getMessage().startsWith("Index ") ? 100 : 1;
    }

    private static int throwsAtByte(Counted x, int place) {
        return throwsAtPeek(x, place) + throwsAtPoke(x, place);
    }

    private static int throwsAtPeek(Counted x, int place) {
        try {
            x.peek(place);
        } catch (ArrayIndexOutOfBoundsException e) {
            return byThrow(e);
        }
        return 0;
    }

    private static int throwsAtPoke(Counted x, int place) {
        try {
            x.poke(place, 77);
        } catch (ArrayIndexOutOfBoundsException e) {
            return byThrow(e);
        }
        return 0;
    }

    private static int throwsAtGlobal(Counted x, int g) {
        try {
            x.global(g, 77);
        } catch (ArrayIndexOutOfBoundsException e) {
            return byThrow(e);
        }
        return 0;
    }

    private static void sentence(String words) {
        sentences++;
        sentence = words;
    }

    private static void due(String what, long got, long want) {
        asked++;
        if (got != want) {
            wrong++;
            System.out.println("\"" + sentence + "\": " + what + " answered " + got + ", due is "
                + want);
        }
    }
}
