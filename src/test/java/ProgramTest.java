/** Promises 1 to 5: a new object, add, clear, size, packet. */
public final class ProgramTest {
    public static void main(String[] args) {
        newObject();
        addCounts();
        addRefuses();
        addTakesTheEdges();
        addLooksAtNothingElse();
        addStopsAt24();
        clearEmpties();
        packetBytes();
        packetRefuses();
        Due.finish();
    }

    private static void newObject() {
        ProgramGate x = new ProgramGate();
        Due.due("new: size", x.size(), 0);
        Due.due("new: steps", x.steps(), 0);
        Due.due("new: ran", x.ran(), 0);
        for (int r = -1; r <= 6; r++) {
            Due.due("new: known of " + r, x.known(r, 0), Due.UNTOLD);
        }
        Due.due("new: run", Due.ran(x, 0), Due.thrown(Due.THROWS_STATE));
        Due.due("new: walk", x.walk(), 100);
        Due.append(x, Due.register(Due.MOVE, 0, 1), Due.end());
        Due.due("new: the packet's length", Due.ran(x, 9), Due.answer(0));
    }

    private static void addCounts() {
        ProgramGate x = new ProgramGate();
        for (int op = 0; op <= 23; op++) {
            Due.due("add of op " + op, x.add(op, op % 6, op % 6, op % 17, op == 14 ? 4 : 1), op + 1);
            Due.due("size after op " + op, x.size(), op + 1);
        }
    }

    private static void refused(int op, int a, int b, int n, int offset) {
        ProgramGate x = Due.gate(Due.number(Due.MOVE, 0, 5));
        String call = "add(" + op + ", " + a + ", " + b + ", " + n + ", " + offset + ")";
        Due.due(call, x.add(op, a, b, n, offset), ProgramGate.NONE);
        Due.due("size after " + call, x.size(), 1);
        Due.append(x, Due.end());
        Due.due("run after " + call, Due.ran(x, 0), Due.answer(5));
    }

    private static void addRefuses() {
        for (int op : new int[] {-1, 24, 100, Integer.MIN_VALUE, Integer.MAX_VALUE}) {
            refused(op, 0, 0, 0, 1);
        }
        for (int op = 0; op <= 23; op++) {
            for (int a : new int[] {-1, 6, Integer.MIN_VALUE, Integer.MAX_VALUE}) {
                refused(op, a, 0, 0, 1);
            }
            for (int b : new int[] {-2, 6, Integer.MIN_VALUE, Integer.MAX_VALUE}) {
                refused(op, 0, b, 0, 1);
            }
        }
        for (int op = 14; op <= 15; op++) {
            refused(op, 0, -1, 0, 1);
            for (int n : new int[] {-1, 17, Integer.MIN_VALUE, Integer.MAX_VALUE}) {
                refused(op, 0, 0, n, 1);
            }
        }
        for (int offset : new int[] {-1, 0, 3, 5, 8, Integer.MIN_VALUE, Integer.MAX_VALUE}) {
            refused(14, 0, 0, 0, offset);
        }
        for (int op = 15; op <= 22; op++) {
            for (int offset : new int[] {-1, 0, 24, Integer.MIN_VALUE, Integer.MAX_VALUE}) {
                refused(op, 0, 0, 0, offset);
            }
        }
    }

    private static void taken(int op, int a, int b, int n, int offset) {
        ProgramGate x = new ProgramGate();
        String call = "add(" + op + ", " + a + ", " + b + ", " + n + ", " + offset + ")";
        Due.due(call, x.add(op, a, b, n, offset), 1);
    }

    private static void addTakesTheEdges() {
        for (int op = 0; op <= 23; op++) {
            taken(op, 5, 5, 16, 1);
            taken(op, 0, 0, 0, 2);
            if (op != 14 && op != 15) {
                taken(op, 0, -1, 0, 1);
            }
            if (op >= 15) {
                taken(op, 0, 0, 0, 23);
            }
        }
        taken(14, 0, 0, 16, 4);
        taken(15, 0, 0, 16, 23);
    }

    private static void addLooksAtNothingElse() {
        for (int op = 0; op <= 23; op++) {
            if (op < 14 || op == 23) {
                taken(op, 0, 0, 0, 0);
                taken(op, 0, 0, 0, -1);
                taken(op, 0, 0, 0, Integer.MAX_VALUE);
            }
            if (op != 14 && op != 15) {
                taken(op, 0, 0, -1, 1);
                taken(op, 0, -1, Integer.MIN_VALUE, 1);
            }
        }
    }

    private static void addStopsAt24() {
        ProgramGate x = new ProgramGate();
        for (int i = 1; i <= 24; i++) {
            Due.due("add " + i, x.add(Due.MOVE, 0, -1, i, 0), i);
        }
        Due.due("add 25", x.add(Due.END, 0, 0, 0, 0), ProgramGate.NONE);
        Due.due("size", x.size(), 24);
        Due.due("walk of 24", x.walk(), 124);
        Due.due("run of 24", Due.ran(x, 0), Due.thrown(Due.THROWS_STATE));
        Due.due("ran of 24", x.ran(), 24);
    }

    private static void clearEmpties() {
        ProgramGate x = Due.gate(Due.register(Due.MOVE, 0, 1), Due.end());
        Due.due("packet", x.packet(0, 0, 3), true);
        Due.due("walk", x.walk(), 0);
        Due.due("run", Due.ran(x, 0), Due.answer(3));
        Due.due("clear", x.clear(), 2);
        Due.due("size", x.size(), 0);
        Due.due("steps stay", x.steps(), 2);
        Due.due("ran stays", x.ran(), 2);
        Due.due("known stays", x.known(0, 3), 16);
        Due.due("clear of nothing", x.clear(), 0);
        Due.due("run of nothing", Due.ran(x, 0), Due.thrown(Due.THROWS_STATE));
        Due.append(x, Due.register(Due.MOVE, 0, 1), Due.end());
        Due.due("the packet stays", Due.ran(x, 0), Due.answer(3));
    }

    /** A gate whose answer is the byte at the argument's place. */
    private static ProgramGate byteReader() {
        return Due.gate(Due.whole(Due.LOAD, 0, 2, 0, 1), Due.end());
    }

    private static void packetBytes() {
        ProgramGate x = byteReader();
        long low = 0x8877665544332211L;
        long high = 0xFFEEDDCCBBAA0099L;
        int[] bytes = {0x11, 0x22, 0x33, 0x44, 0x55, 0x66, 0x77, 0x88,
            0x99, 0x00, 0xAA, 0xBB, 0xCC, 0xDD, 0xEE, 0xFF};
        for (int n = 16; n >= 0; n--) {
            Due.due("packet of " + n, x.packet(low, high, n), true);
            for (int i = 0; i <= 17; i++) {
                String want = i < n ? Due.answer(bytes[i]) : Due.thrown(Due.THROWS_INDEX);
                Due.due("byte " + i + " of " + n, Due.ran(x, i), want);
            }
        }
    }

    private static void packetRefuses() {
        ProgramGate x = byteReader();
        Due.due("packet", x.packet(7, 0, 1), true);
        for (int n : new int[] {-1, 17, Integer.MIN_VALUE, Integer.MAX_VALUE}) {
            Due.due("packet of " + n, x.packet(9, 9, n), false);
            Due.due("the byte stays", Due.ran(x, 0), Due.answer(7));
            Due.due("the length stays", Due.ran(x, 1), Due.thrown(Due.THROWS_INDEX));
        }
    }
}
