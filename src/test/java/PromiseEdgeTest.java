/** The edges that promises 1 to 10 name, sentence by sentence. */
public final class PromiseEdgeTest {
    private static final int NONE = ProgramGate.NONE;
    private static final int MIN = Integer.MIN_VALUE;
    private static final int MAX = Integer.MAX_VALUE;
    private static final int[] ZERO = Due.number(Due.MOVE, 0, 0);
    private static final int[] PAST = Due.whole(Due.GO, 0, -1, 0, 23);

    public static void main(String[] args) {
        newObject();
        addAppends();
        addToTwentyFour();
        addOfOps();
        addOfRegistersA();
        addOfRegistersB();
        addWithoutB();
        addOfNumbers();
        addOfOffsetsOfLoad();
        addOfOffsets();
        addOfEachKind();
        addWhenRefused();
        clears();
        sizes();
        packets();
        packetsRefused();
        walks();
        stepsOfWalks();
        runsWhatIsNotLetIn();
        runsPastTheEnd();
        runsDivisions();
        runsPlaces();
        runsBytes();
        ranInstructions();
        knownOnTheLatestWay();
        knownOfWhat();
        notKnown();
        Due.finish();
    }

    // ---- promise 1

    private static void newObject() {
        Due.says("An empty program, an empty packet.");
        ProgramGate x = new ProgramGate();
        Due.due("size", x.size(), 0);
        Due.due("clear", x.clear(), 0);
        Due.due("run", Due.ran(x, 0), Due.thrown(Due.THROWS_STATE));
        Due.due("walk", x.walk(), 100);
        Due.append(x, Due.register(Due.MOVE, 0, 1), Due.end());
        Due.due("the packet's length", Due.ran(x, 0), Due.answer(0));
        ProgramGate y = Due.gate(Due.whole(Due.LOAD, 0, 2, 0, 1), Due.end());
        Due.due("the packet's first byte", Due.ran(y, 0), Due.thrown(Due.THROWS_INDEX));
        ProgramGate z = Due.gate(Due.whole(Due.BEYOND, 0, 2, 0, 1), Due.end(), Due.number(Due.MOVE, 0, 1), Due.end());
        Due.due("0 is not beyond", Due.ran(z, 0), Due.answer(0));
        Due.due("1 is beyond", Due.ran(z, 1), Due.answer(1));
        // Objects have nothing in common.
        Due.due("a later object", new ProgramGate().size(), 0);
    }

    // ---- promise 2

    private static void addAppends() {
        Due.says("Appends an instruction: how many there are.");
        ProgramGate x = new ProgramGate();
        for (int k = 1; k <= 24; k++) {
            Due.due("add", x.add(Due.ADD, 0, -1, k, 0), k);
            Due.due("size", x.size(), k);
        }
        x.clear();
        Due.due("the first", x.add(Due.MOVE, 0, -1, 3, 0), 1);
        Due.due("the second", x.add(Due.MULTIPLY, 0, -1, 5, 0), 2);
        Due.due("the third", x.add(Due.END, 0, -1, 0, 0), 3);
        Due.due("in their order", Due.ran(x, 0), Due.answer(15));
    }

    private static void addToTwentyFour() {
        Due.says("NONE, and nothing is done, when there are 24");
        ProgramGate x = new ProgramGate();
        Due.append(x, Due.number(Due.MOVE, 0, 1));
        for (int k = 2; k <= 23; k++) {
            Due.append(x, Due.number(Due.ADD, 0, 1));
        }
        Due.due("the 24th", x.add(Due.END, 0, -1, 0, 0), 24);
        for (int op = 0; op <= 23; op++) {
            Due.due("the 25th, op " + op, x.add(op, 0, 0, 0, 1), NONE);
        }
        Due.due("size", x.size(), 24);
        Due.due("walk", x.walk(), 0);
        Due.due("steps", x.steps(), 24);
        Due.due("run", Due.ran(x, 0), Due.answer(23));
    }

    /** What add answers for a first instruction. */
    private static void first(int op, int a, int b, int n, int offset, boolean taken) {
        String call = "add(" + op + ", " + a + ", " + b + ", " + n + ", " + offset + ")";
        Due.due(call, new ProgramGate().add(op, a, b, n, offset), taken ? 1 : NONE);
    }

    private static void addOfOps() {
        Due.says("op is not 0 .. 23");
        for (int op : new int[] {MIN, -1, 24, MAX}) {
            first(op, 0, 0, 0, 1, false);
        }
        for (int op = 0; op <= 23; op++) {
            first(op, 0, 0, 0, 1, true);
        }
    }

    private static void addOfRegistersA() {
        Due.says("a is not 0 .. 5");
        for (int op = 0; op <= 23; op++) {
            for (int a : new int[] {MIN, -1, 6, MAX}) {
                first(op, a, 0, 0, 1, false);
            }
            for (int a = 0; a <= 5; a++) {
                first(op, a, 0, 0, 1, true);
            }
        }
    }

    private static void addOfRegistersB() {
        Due.says("b is not -1 .. 5");
        for (int op = 0; op <= 23; op++) {
            for (int b : new int[] {MIN, -2, 6, MAX}) {
                first(op, 0, b, 0, 1, false);
            }
            for (int b = 0; b <= 5; b++) {
                first(op, 0, b, 0, 1, true);
            }
        }
    }

    private static void addWithoutB() {
        Due.says("b is -1 for 14 or 15");
        for (int op = 0; op <= 23; op++) {
            first(op, 0, -1, 0, 1, op != 14 && op != 15);
        }
    }

    private static void addOfNumbers() {
        Due.says("n is not 0 .. 16 for 14 or 15");
        for (int op = 0; op <= 23; op++) {
            for (int n : new int[] {MIN, -1, 17, MAX}) {
                first(op, 0, 0, n, 1, op != 14 && op != 15);
            }
            for (int n = 0; n <= 16; n++) {
                first(op, 0, 0, n, 1, true);
            }
        }
    }

    private static void addOfOffsetsOfLoad() {
        Due.says("the offset is not 1, 2 or 4 for 14");
        for (int offset = -1; offset <= 24; offset++) {
            first(14, 0, 0, 0, offset, offset == 1 || offset == 2 || offset == 4);
        }
        first(14, 0, 0, 0, MIN, false);
        first(14, 0, 0, 0, MAX, false);
    }

    private static void addOfOffsets() {
        Due.says("or not 1 .. 23 for 15 .. 22.");
        for (int op = 0; op <= 23; op++) {
            boolean anyOffset = op < 14 || op == 23;
            for (int offset : new int[] {MIN, -1, 0, 24, MAX}) {
                first(op, 0, 0, 0, offset, anyOffset);
            }
            for (int offset = 1; offset <= 23 && op != 14; offset++) {
                first(op, 0, 0, 0, offset, true);
            }
        }
    }

    private static void addOfEachKind() {
        Due.says("NONE, and nothing is done, when there are 24, op is not 0 .. 23, a is not 0 .. 5, b is not -1"
            + " .. 5, b is -1 for 14 or 15, n is not 0 .. 16 for 14 or 15, the offset is not 1, 2 or 4 for 14, or not"
            + " 1 .. 23 for 15 .. 22.");
        // All reasons with one another: none makes up for another one.
        for (int op = -1; op <= 24; op++) {
            for (int a : new int[] {-1, 0, 5, 6}) {
                for (int b : new int[] {-2, -1, 0, 5, 6}) {
                    for (int n : new int[] {-1, 0, 16, 17}) {
                        for (int offset : new int[] {-1, 0, 1, 2, 3, 4, 5, 23, 24}) {
                            first(op, a, b, n, offset, mayBeAdded(op, a, b, n, offset));
                        }
                    }
                }
            }
        }
    }

    private static boolean mayBeAdded(int op, int a, int b, int n, int offset) {
        boolean registers = a >= 0 && a <= 5 && b >= -1 && b <= 5;
        boolean ofPacket = op != 14 && op != 15 || b != -1 && n >= 0 && n <= 16;
        boolean ofLoad = op != 14 || offset == 1 || offset == 2 || offset == 4;
        boolean ofGoing = op < 15 || op > 22 || offset >= 1 && offset <= 23;
        return op >= 0 && op <= 23 && registers && ofPacket && ofLoad && ofGoing;
    }

    private static void addWhenRefused() {
        Due.says("NONE, and nothing is done");
        int[][] refused = {{24, 0, 0, 0, 1}, {-1, 0, 0, 0, 1}, {0, 6, 0, 0, 1}, {0, -1, 0, 0, 1}, {0, 0, 6, 0, 1},
            {0, 0, -2, 0, 1}, {14, 0, -1, 0, 1}, {15, 0, -1, 0, 1}, {14, 0, 0, 17, 1}, {14, 0, 0, -1, 1},
                {15, 0, 0, 17, 1},
            {15, 0, 0, -1, 1}, {14, 0, 0, 0, 3}, {14, 0, 0, 0, 0}, {15, 0, 0, 0, 0}, {15, 0, 0, 0, 24},
                {22, 0, 0, 0, 0},
            {22, 0, 0, 0, 24}};
        for (int[] i : refused) {
            ProgramGate x = Due.gate(Due.number(Due.MOVE, 0, 5));
            x.packet(1, 0, 3);
            Due.due("walk", x.walk(), 101);
            Due.due("run", Due.ran(x, 0), Due.thrown(Due.THROWS_STATE));
            Due.due("add", x.add(i[0], i[1], i[2], i[3], i[4]), NONE);
            Due.due("size", x.size(), 1);
            Due.due("steps", x.steps(), 2);
            Due.due("ran", x.ran(), 1);
            Due.due("walk", x.walk(), 101);
            // The next one stands where the refused one would have stood.
            Due.due("add", x.add(Due.ADD, 0, 1, 0, 0), 2);
            Due.due("add", x.add(Due.END, 0, -1, 0, 0), 3);
            Due.due("run", Due.ran(x, 0), Due.answer(8));
            Due.due("walk", x.walk(), 0);
        }
    }

    // ---- promise 3

    private static void clears() {
        Due.says("The program is empty then: how many instructions it had.");
        ProgramGate x = new ProgramGate();
        Due.due("clear of none", x.clear(), 0);
        Due.due("clear of none again", x.clear(), 0);
        for (int count : new int[] {1, 23, 24}) {
            for (int k = 0; k < count; k++) {
                Due.append(x, Due.end());
            }
            Due.due("clear of " + count, x.clear(), count);
            Due.due("size", x.size(), 0);
            Due.due("clear again", x.clear(), 0);
            Due.due("walk", x.walk(), 100);
            Due.due("run", Due.ran(x, 0), Due.thrown(Due.THROWS_STATE));
        }
        // What stood behind the new end before is not there any more, and all 24 can be added again.
        Due.append(x, ZERO);
        Due.due("walk of one", x.walk(), 101);
        Due.due("run of one", Due.ran(x, 0), Due.thrown(Due.THROWS_STATE));
        for (int k = 2; k <= 24; k++) {
            Due.due("add", x.add(Due.END, 0, -1, 0, 0), k);
        }
        Due.due("add", x.add(Due.END, 0, -1, 0, 0), NONE);
        Due.due("clear", x.clear(), 24);
        // The program alone: not the packet, nor what was walked and run.
        ProgramGate y = Due.gate(Due.register(Due.MOVE, 0, 1), Due.end());
        y.packet(0, 0, 7);
        y.walk();
        Due.due("run", Due.ran(y, 0), Due.answer(7));
        Due.due("clear", y.clear(), 2);
        Due.due("steps", y.steps(), 2);
        Due.due("ran", y.ran(), 2);
        Due.due("known", y.known(0, 3), 16);
        Due.append(y, Due.register(Due.MOVE, 0, 1), Due.end());
        Due.due("run", Due.ran(y, 0), Due.answer(7));
    }

    // ---- promise 4

    private static void sizes() {
        Due.says("How many instructions there are.");
        ProgramGate x = new ProgramGate();
        for (int count = 0; count <= 24; count++) {
            Due.due("size", x.size(), count);
            Due.due("size again", x.size(), count);
            x.add(-1, 0, 0, 0, 0);
            Due.due("size after a refused add", x.size(), count);
            Due.due("add", x.add(Due.MOVE, 0, 1, 0, 0), count < 24 ? count + 1 : NONE);
        }
        Due.due("size", x.size(), 24);
        x.walk();
        Due.ran(x, 0);
        Due.due("size after walk and run", x.size(), 24);
        x.clear();
        Due.due("size after clear", x.size(), 0);
    }

    // ---- promise 5

    /** The length and the byte at each place; 256 stands for no such byte. */
    private static void bytesAre(ProgramGate x, int length, int... bytes) {
        x.clear();
        Due.append(x, Due.register(Due.MOVE, 0, 1), Due.end());
        Due.due("length", Due.ran(x, 0), Due.answer(length));
        x.clear();
        Due.append(x, Due.whole(Due.LOAD, 0, 2, 0, 1), Due.end());
        for (int place = 0; place <= 16; place++) {
            String want = place < length ? Due.answer(bytes[place]) : Due.thrown(Due.THROWS_INDEX);
            Due.due("byte " + place + " of " + length, Due.ran(x, place), want);
        }
    }

    private static void packets() {
        Due.says("The packet becomes n bytes, the lowest n of low, the lowest first, and, if n is more than 8, of"
            + " high: true");
        int[] bytes = {0x10, 0x80, 0xFF, 0x7F, 0, 1, 0xFE, 0x81, 0x20, 0x90, 0xEF, 0x6F, 0, 2, 0xFD, 0x82};
        long low = 0x81FE01007FFF8010L;
        long high = 0x82FD02006FEF9020L;
        for (int n : new int[] {0, 1, 7, 8, 9, 15, 16}) {
            ProgramGate x = new ProgramGate();
            Due.due("packet of " + n, x.packet(low, high, n), true);
            bytesAre(x, n, bytes);
        }
        // Fewer after more, and more after fewer.
        ProgramGate x = new ProgramGate();
        Due.due("packet of 16", x.packet(-1, -1, 16), true);
        Due.due("packet of 9", x.packet(low, high, 9), true);
        bytesAre(x, 9, bytes);
        Due.due("packet of 0", x.packet(-1, -1, 0), true);
        bytesAre(x, 0);
        Due.due("packet of 8", x.packet(low, -1, 8), true);
        bytesAre(x, 8, bytes);
        Due.due("packet of 16", x.packet(low, high, 16), true);
        bytesAre(x, 16, bytes);
        Due.due("packet of the least and the greatest", x.packet(Long.MIN_VALUE, Long.MAX_VALUE, 16), true);
        bytesAre(x, 16, 0, 0, 0, 0, 0, 0, 0, 0x80, 0xFF, 0xFF, 0xFF, 0xFF, 0xFF, 0xFF, 0xFF, 0x7F);
    }

    private static void packetsRefused() {
        Due.says("false when n is not 0 .. 16.");
        for (int n : new int[] {MIN, -1, 17, MAX}) {
            ProgramGate x = new ProgramGate();
            Due.due("packet of " + n, x.packet(-1, -1, n), false);
            bytesAre(x, 0);
            Due.due("packet of 9", x.packet(0x0807060504030201L, 9, 9), true);
            Due.due("packet of " + n, x.packet(-1, -1, n), false);
            bytesAre(x, 9, 1, 2, 3, 4, 5, 6, 7, 8, 9);
        }
        for (int n = 0; n <= 16; n++) {
            Due.due("packet of " + n, new ProgramGate().packet(0, 0, n), true);
        }
    }

    // ---- promises 6 and 7

    private static void walks() {
        Due.says("Walks the program: 0 when it is let in, otherwise 100 * alarm and the instruction's place"
            + " together.");
        Due.walks("let in", 0, 2, ZERO, Due.end());
        Due.walks("alarm 1 at 0", 100, 1);
        Due.walks("alarm 3 at 0", 300, 1, Due.end());
        Due.walks("alarm 4 at 0", 400, 1, Due.number(Due.DIVIDE, 1, 0));
        Due.walks("alarm 5 at 0", 500, 1, Due.number(Due.PUT, 1, 4));
        Due.walks("alarm 6 at 0", 600, 1, Due.number(Due.GET, 1, 3));
        Due.walks("alarm 7 at 0", 700, 1, Due.whole(Due.LOAD, 0, 1, 0, 1));
        // At the last place, and at the furthest behind it.
        int[][] full = new int[24][];
        for (int k = 0; k < 24; k++) {
            full[k] = Due.number(Due.MOVE, 3, 0);
        }
        full[23] = Due.whole(Due.LOAD, 0, 1, 0, 1);
        Due.walks("alarm 7 at 23", 723, 24, full);
        full[23] = Due.end();
        Due.walks("alarm 3 at 23", 323, 24, full);
        full[23] = PAST;
        Due.walks("alarm 1 at 47", 147, 25, full);
        full[0] = ZERO;
        full[23] = Due.end();
        Due.walks("let in with 24", 0, 24, full);
    }

    private static void stepsOfWalks() {
        Due.says("How many steps the latest walk made (up to and with its alarm); 0 before any.");
        ProgramGate x = Due.gate(ZERO, Due.whole(Due.BEYOND, 0, 1, 0, 1), Due.end(), Due.end());
        Due.due("before any", x.steps(), 0);
        Due.ran(x, 0);
        Due.due("after a run alone", x.steps(), 0);
        x.walk();
        Due.due("let in", x.steps(), 4);
        x.clear();
        Due.due("after clear", x.steps(), 4);
        x.walk();
        Due.due("with its alarm alone", x.steps(), 1);
        Due.append(x, ZERO, Due.number(Due.DIVIDE, 0, 0), Due.end());
        Due.due("after add", x.steps(), 1);
        x.walk();
        Due.due("up to and with its alarm", x.steps(), 2);
        Due.ran(x, 0);
        x.packet(0, 0, 4);
        Due.due("after run and packet", x.steps(), 2);
    }

    // ---- promises 8 and 9

    private static void runsWhatIsNotLetIn() {
        Due.says("Runs the program, whether it would be let in or not: its answer.");
        ProgramGate x = Due.gate(Due.register(Due.DIVIDE, 2, 1), Due.register(Due.MOVE, 0, 2), Due.end());
        x.packet(0, 0, 2);
        Due.due("before any walk", Due.ran(x, 9), Due.answer(4));
        Due.due("walk", x.walk(), 400);
        Due.due("after its walk", Due.ran(x, 9), Due.answer(4));
        Due.due("an unset register", Due.ran(Due.gate(Due.register(Due.ADD, 0, 5), Due.end()), 9), Due.answer(0));
        Due.due("an unset place", Due.ran(Due.gate(Due.number(Due.GET, 0, 3), Due.end()), 9), Due.answer(0));
        Due.due("only END", Due.ran(Due.gate(Due.end()), 9), Due.answer(0));
    }

    private static void runs(String what, ProgramGate x, int argument, String want, int made) {
        Due.due(what + ": run(" + argument + ")", Due.ran(x, argument), want);
        Due.due(what + ": ran", x.ran(), made);
    }

    private static void runsPastTheEnd() {
        Due.says("IllegalStateException: the program's end is passed");
        String past = Due.thrown(Due.THROWS_STATE);
        runs("no instruction", new ProgramGate(), 0, past, 0);
        runs("no END", Due.gate(ZERO), 0, past, 1);
        runs("END at the end", Due.gate(ZERO, Due.end()), 0, Due.answer(0), 2);
        runs("to the last", Due.gate(Due.whole(Due.GO, 0, -1, 0, 1), ZERO, Due.end()), 0, Due.answer(0), 2);
        runs("just past the last", Due.gate(Due.whole(Due.GO, 0, -1, 0, 2), ZERO, Due.end()), 0, past, 1);
        runs("far past the last", Due.gate(PAST, ZERO, Due.end()), 0, past, 1);
        ProgramGate full = new ProgramGate();
        for (int k = 0; k < 23; k++) {
            Due.append(full, ZERO);
        }
        Due.append(full, PAST);
        runs("furthest past the last", full, 0, past, 24);
    }

    private static void runsDivisions() {
        Due.says("ArithmeticException: it divides by 0");
        for (int op = Due.DIVIDE; op <= Due.REST; op++) {
            ProgramGate x = Due.gate(Due.number(Due.MOVE, 0, -1), Due.register(op, 0, 2), Due.end());
            runs("by a register", x, 0, Due.thrown(Due.THROWS_ARITHMETIC), 2);
            runs("by a register", x, 1, Due.answer(op == Due.DIVIDE ? -1 : 0), 3);
            runs("by a register", x, -1, Due.answer(op == Due.DIVIDE ? 1 : 0), 3);
            runs("by a register", x, MIN, Due.answer(op == Due.DIVIDE ? 1 : MAX), 3);
            runs("by a number", Due.gate(Due.number(op, 2, 0), Due.end()), 5, Due.thrown(Due.THROWS_ARITHMETIC), 1);
            runs("0 by 0", Due.gate(Due.register(op, 0, 0), Due.end()), 5, Due.thrown(Due.THROWS_ARITHMETIC), 1);
            runs("0 by 1", Due.gate(Due.number(op, 0, 1), Due.end()), 5, Due.answer(0), 2);
        }
    }

    private static void runsPlaces() {
        Due.says("IndexOutOfBoundsException: the stack has no such place");
        for (int op = Due.GET; op <= Due.PUT; op++) {
            ProgramGate x = Due.gate(ZERO, Due.register(op, 0, 2), Due.end());
            for (int place = 0; place <= 3; place++) {
                runs("op " + op, x, place, Due.answer(0), 3);
                runs("op " + op, Due.gate(Due.number(op, 0, place), Due.end()), 9, Due.answer(0), 2);
            }
            for (int place : new int[] {4, 5, -1, MIN, MAX}) {
                runs("op " + op, x, place, Due.thrown(Due.THROWS_INDEX), 2);
                runs("op " + op, Due.gate(Due.number(op, 0, place), Due.end()), 0, Due.thrown(Due.THROWS_INDEX), 1);
            }
        }
    }

    private static void runsBytes() {
        Due.says("IndexOutOfBoundsException: the stack has no such place, or the packet no such byte.");
        for (int howMany : new int[] {1, 2, 4}) {
            for (int length = 0; length <= 16; length++) {
                ProgramGate x = Due.gate(Due.whole(Due.LOAD, 0, 2, 0, howMany), Due.end());
                x.packet(0, 0, length);
                boolean any = length >= howMany;
                if (any) {
                    runs("the last " + howMany, x, length - howMany, Due.answer(0), 2);
                }
                runs("one byte further", x, Math.max(length - howMany + 1, 0), Due.thrown(Due.THROWS_INDEX), 1);
                runs("behind them", x, length, Due.thrown(Due.THROWS_INDEX), 1);
                runs("at the greatest place", x, -1, Due.thrown(Due.THROWS_INDEX), 1);
            }
        }
    }

    private static void ranInstructions() {
        Due.says("How many instructions the latest run made, the one that threw included (but none for the"
            + " program's end); 0 before any.");
        ProgramGate x = new ProgramGate();
        Due.due("before any", x.ran(), 0);
        Due.append(x, ZERO, Due.whole(Due.EQUAL, 2, -1, 1, 3), Due.register(Due.DIVIDE, 1, 2),
            Due.register(Due.GET, 3, 2), Due.end());
        x.walk();
        Due.due("after a walk alone", x.ran(), 0);
        runs("it answers", x, 3, Due.answer(0), 5);
        runs("it divides by 0", x, 0, Due.thrown(Due.THROWS_ARITHMETIC), 3);
        runs("no such place", x, 4, Due.thrown(Due.THROWS_INDEX), 4);
        runs("its end is passed", x, 1, Due.thrown(Due.THROWS_STATE), 2);
        Due.append(x, Due.whole(Due.LOAD, 0, 2, 0, 1));
        runs("no such byte", x, 1, Due.thrown(Due.THROWS_INDEX), 3);
        x.walk();
        x.packet(0, 0, 9);
        x.clear();
        Due.due("after walk, packet and clear", x.ran(), 3);
        runs("no instruction", x, 0, Due.thrown(Due.THROWS_STATE), 0);
    }

    // ---- promise 10

    private static void knownOnTheLatestWay() {
        Due.says("What was known of register r, on the way that came to END latest in the latest walk");
        int[] fork = Due.whole(Due.BEYOND, 0, 1, 0, 2);
        // Three ways: 1, then 2, then 3.
        ProgramGate x = Due.gate(ZERO, Due.whole(Due.BEYOND, 0, 1, 0, 5), fork, Due.number(Due.MOVE, 0, 1), Due.end(),
            Due.number(Due.MOVE, 0, 2), Due.end(), Due.number(Due.MOVE, 0, 3), Due.end());
        Due.due("walk", x.walk(), 0);
        Due.due("the third way", x.known(0, 2), 3);
        // The third one raises an alarm: the second is the latest that came to END.
        ProgramGate y = Due.gate(ZERO, Due.whole(Due.BEYOND, 0, 1, 0, 5), fork, Due.number(Due.MOVE, 0, 1), Due.end(),
            Due.number(Due.MOVE, 0, 2), Due.end(), Due.number(Due.DIVIDE, 0, 0), Due.end());
        Due.due("walk", y.walk(), 407);
        Due.due("the second way", y.known(0, 2), 2);
        // The way that goes is impossible, and comes to no END.
        ProgramGate z = Due.gate(Due.number(Due.MOVE, 0, 4), Due.whole(Due.EQUAL, 0, -1, 5, 1), Due.end(), Due.end());
        Due.due("walk", z.walk(), 0);
        Due.due("the only way", z.known(0, 2), 4);
        // The latest walk alone counts.
        Due.append(z, ZERO);
        z.packet(0, 0, 5);
        Due.ran(z, 0);
        Due.due("after add, packet and run", z.known(0, 2), 4);
        z.clear();
        Due.due("after clear", z.known(0, 2), 4);
        Due.append(z, Due.number(Due.MOVE, 0, 6), Due.end());
        Due.due("before the next walk", z.known(0, 2), 4);
        z.walk();
        Due.due("after the next walk", z.known(0, 2), 6);
    }

    private static void knownOfWhat() {
        Due.says("what = 0 the known bits, 1 the known ones (both unsigned), 2 LOW, 3 HIGH, 4 LEAST, 5 MOST, 6 SAFE.");
        // Register 3: bit 31 is 1, the rest below -100 unknown, SAFE 5.
        ProgramGate x = Due.gate(ZERO, Due.register(Due.MOVE, 3, 2), Due.whole(Due.LESS, 3, -1, MIN + 7, 23),
            Due.whole(Due.NOT_LESS, 3, -1, -100, 23), Due.whole(Due.BEYOND, 0, 3, 5, 23), Due.end());
        Due.due("walk", x.walk(), 128);
        long[] want = {2147483648L, 2147483648L, 2147483655L, 4294967195L, -2147483641L, -101L, 5L};
        for (int what = 0; what <= 6; what++) {
            Due.due("known(3, " + what + ")", x.known(3, what), want[what]);
        }
    }

    private static void allUntold(String why, ProgramGate x, int r) {
        for (int what = -1; what <= 7; what++) {
            Due.due(why + ": known(" + r + ", " + what + ")", x.known(r, what), 4611686018427387904L);
        }
    }

    private static void notKnown() {
        Due.says("2^62 when there is no such register, it was unset, what is not 0 .. 6, or no way came to END.");
        ProgramGate x = Due.gate(ZERO, Due.number(Due.MOVE, 5, 1), Due.end());
        for (int r = 0; r <= 5; r++) {
            allUntold("before any walk", x, r);
        }
        Due.due("walk", x.walk(), 0);
        for (int r : new int[] {MIN, -1, 6, MAX}) {
            allUntold("no such register", x, r);
        }
        allUntold("unset", x, 3);
        allUntold("unset", x, 4);
        for (int what : new int[] {MIN, -1, 7, MAX}) {
            Due.due("what = " + what, x.known(0, what), 4611686018427387904L);
            Due.due("what = " + what, x.known(5, what), 4611686018427387904L);
        }
        for (int r : new int[] {0, 1, 2, 5}) {
            for (int what = 0; what <= 6; what++) {
                Due.due("it is known(" + r + ", " + what + ")", x.known(r, what) != 4611686018427387904L, true);
            }
        }
        // No way comes to END, though one did in the walk before.
        x.clear();
        Due.append(x, ZERO, Due.number(Due.DIVIDE, 0, 0), Due.end());
        Due.due("walk", x.walk(), 401);
        for (int r = 0; r <= 5; r++) {
            allUntold("no way came to END", x, r);
        }
        // Unset on the latest way, though set on the one before.
        ProgramGate y = Due.gate(ZERO, Due.whole(Due.BEYOND, 0, 1, 0, 2), Due.number(Due.MOVE, 4, 1), Due.end(),
            Due.end());
        Due.due("walk", y.walk(), 0);
        allUntold("unset on the latest way", y, 4);
        // As the README reads it, an END at which there is an alarm is not come to.
        ProgramGate z = Due.gate(Due.end());
        Due.due("walk", z.walk(), 300);
        allUntold("END without register 0", z, 1);
    }
}
