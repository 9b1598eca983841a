/** Promises 8 and 9: run and ran. */
public final class RunTest {
    private static final int MIN = Integer.MIN_VALUE;
    private static final int MAX = Integer.MAX_VALUE;

    public static void main(String[] args) {
        beginning();
        arithmetic();
        shifts();
        divisions();
        stack();
        loads();
        beyond();
        relations();
        going();
        passedEnd();
        ranCounts();
        Due.finish();
    }

    private static void beginning() {
        int[] want = {0, 5, -77, 0, 0, 0};
        for (int r = 0; r < 6; r++) {
            ProgramGate x = Due.gate(Due.register(Due.MOVE, 0, r), Due.end());
            Due.due("packet", x.packet(0, 0, 5), true);
            Due.due("register " + r, Due.ran(x, -77), Due.answer(want[r]));
            Due.due("register " + r + " again", Due.ran(x, -77), Due.answer(want[r]));
        }
        // What one run leaves in registers and places is not there in the next.
        ProgramGate x = Due.gate(Due.number(Due.GET, 0, 2), Due.register(Due.ADD, 0, 3),
            Due.number(Due.MOVE, 3, 7), Due.number(Due.PUT, 3, 2), Due.end());
        Due.due("first run", Due.ran(x, 1), Due.answer(0));
        Due.due("second run", Due.ran(x, 1), Due.answer(0));
    }

    /** The operation on x in register 0 and y, y once from a register and once from the program. */
    private static void operation(int op, int x, int y, int want) {
        String call = "op " + op + " of " + x + " and " + y;
        ProgramGate byNumber = Due.gate(Due.number(Due.MOVE, 0, x), Due.number(op, 0, y), Due.end());
        Due.due(call, Due.ran(byNumber, 0), Due.answer(want));
        ProgramGate byRegister = Due.gate(Due.number(Due.MOVE, 0, x), Due.whole(op, 0, 2, 99, 0), Due.end());
        Due.due(call + " by register", Due.ran(byRegister, y), Due.answer(want));
    }

    private static void arithmetic() {
        operation(Due.MOVE, 5, -3, -3);
        operation(Due.ADD, 5, -3, 2);
        operation(Due.ADD, MAX, 1, MIN);
        operation(Due.SUBTRACT, 5, 8, -3);
        operation(Due.SUBTRACT, MIN, 1, MAX);
        operation(Due.MULTIPLY, -5, 8, -40);
        operation(Due.MULTIPLY, 65536, 65536, 0);
        operation(Due.MULTIPLY, 65537, 65537, 131073);
        operation(Due.AND, 12, 10, 8);
        operation(Due.OR, 12, 10, 14);
        operation(Due.XOR, 12, 10, 6);
    }

    private static void shifts() {
        operation(Due.LEFT, -1, 4, -16);
        operation(Due.LEFT, 3, 31, MIN);
        operation(Due.LEFT, 3, 32, 3);
        operation(Due.LEFT, 3, -31, 6);
        operation(Due.RIGHT, -1, 4, 0x0FFFFFFF);
        operation(Due.RIGHT, -1, 33, MAX);
        operation(Due.RIGHT, -1, 0, -1);
        operation(Due.RIGHT_SIGNED, -16, 2, -4);
        operation(Due.RIGHT_SIGNED, 16, 34, 4);
        operation(Due.RIGHT_SIGNED, -1, 31, -1);
    }

    private static void divisions() {
        operation(Due.DIVIDE, 17, 5, 3);
        operation(Due.DIVIDE, -1, 2, MAX);
        operation(Due.DIVIDE, -1, 1, -1);
        operation(Due.DIVIDE, 7, -1, 0);
        operation(Due.DIVIDE, -1, -1, 1);
        operation(Due.REST, 17, 5, 2);
        operation(Due.REST, -1, 10, 5);
        operation(Due.REST, 7, -1, 7);
        for (int op = Due.DIVIDE; op <= Due.REST; op++) {
            ProgramGate x = Due.gate(Due.register(op, 0, 2), Due.end());
            Due.due("op " + op + " by 0", Due.ran(x, 0), Due.thrown(Due.THROWS_ARITHMETIC));
            Due.due("ran", x.ran(), 1);
            Due.due("op " + op + " by 1", Due.ran(x, 1), Due.answer(0));
            Due.due("ran", x.ran(), 2);
        }
    }

    private static void stack() {
        ProgramGate x = Due.gate(Due.number(Due.MOVE, 3, 9), Due.register(Due.PUT, 3, 2),
            Due.number(Due.GET, 0, 3), Due.end());
        Due.due("put 3", Due.ran(x, 3), Due.answer(9));
        Due.due("put 0", Due.ran(x, 0), Due.answer(0));
        for (int place : new int[] {4, -1, MIN, MAX}) {
            Due.due("put " + place, Due.ran(x, place), Due.thrown(Due.THROWS_INDEX));
            Due.due("ran", x.ran(), 2);
        }
        ProgramGate y = Due.gate(Due.number(Due.PUT, 2, 0), Due.register(Due.GET, 0, 2), Due.end());
        Due.due("get 0", Due.ran(y, 0), Due.answer(0));
        Due.due("get 3", Due.ran(y, 3), Due.answer(0));
        for (int place : new int[] {4, -1, MIN, MAX}) {
            Due.due("get " + place, Due.ran(y, place), Due.thrown(Due.THROWS_INDEX));
            Due.due("ran", y.ran(), 2);
        }
        ProgramGate itself = Due.gate(Due.register(Due.PUT, 2, 2), Due.register(Due.GET, 2, 2),
            Due.register(Due.MOVE, 0, 2), Due.end());
        Due.due("get and put of itself", Due.ran(itself, 2), Due.answer(2));
    }

    private static ProgramGate loader(int n, int howMany) {
        ProgramGate x = Due.gate(Due.number(Due.MOVE, 0, -1), Due.whole(Due.LOAD, 0, 2, n, howMany), Due.end());
        x.packet(0x8877665544F322F1L, 0x9AL, 9);
        return x;
    }

    private static void loads() {
        Due.due("1 byte", Due.ran(loader(0, 1), 0), Due.answer(0xF1));
        Due.due("1 byte at 2", Due.ran(loader(2, 1), 0), Due.answer(0xF3));
        Due.due("2 bytes", Due.ran(loader(0, 2), 0), Due.answer(0x22F1));
        Due.due("2 bytes at 1 + 1", Due.ran(loader(1, 2), 1), Due.answer(0x44F3));
        Due.due("4 bytes", Due.ran(loader(0, 4), 0), Due.answer(0x44F322F1));
        Due.due("4 bytes at 2 + 3", Due.ran(loader(2, 4), 3), Due.answer(0x9A887766));
        Due.due("the last byte", Due.ran(loader(8, 1), 0), Due.answer(0x9A));
        for (int howMany : new int[] {1, 2, 4}) {
            int last = 9 - howMany;
            Due.due("fits", Due.ran(loader(0, howMany), last).startsWith("answer"), true);
            Due.due("one further", Due.ran(loader(1, howMany), last), Due.thrown(Due.THROWS_INDEX));
            Due.due("one further on", Due.ran(loader(0, howMany), last + 1), Due.thrown(Due.THROWS_INDEX));
        }
        // B is unsigned: it does not wrap to a place in the packet.
        Due.due("-1 + 1", Due.ran(loader(1, 1), -1), Due.thrown(Due.THROWS_INDEX));
        Due.due("-16 + 16", Due.ran(loader(16, 4), -16), Due.thrown(Due.THROWS_INDEX));
        Due.due("MAX", Due.ran(loader(16, 4), MAX), Due.thrown(Due.THROWS_INDEX));
    }

    private static void beyond() {
        ProgramGate x = Due.gate(Due.whole(Due.BEYOND, 0, 2, 4, 2), Due.number(Due.MOVE, 0, 1), Due.end(),
            Due.number(Due.MOVE, 0, 2), Due.end());
        x.packet(0, 0, 9);
        Due.due("5 + 4 of 9", Due.ran(x, 5), Due.answer(1));
        Due.due("6 + 4 of 9", Due.ran(x, 6), Due.answer(2));
        Due.due("-1 + 4 of 9", Due.ran(x, -1), Due.answer(2));
        Due.due("0 + 4 of 9", Due.ran(x, 0), Due.answer(1));
        x.packet(0, 0, 3);
        Due.due("0 + 4 of 3", Due.ran(x, 0), Due.answer(2));
    }

    private static void relation(int op, int x, int y, boolean holds) {
        String call = "relation " + op + " of " + x + " and " + y;
        int[][] rest = {Due.end(), Due.number(Due.MOVE, 0, 2), Due.end()};
        ProgramGate byNumber = Due.gate(Due.whole(op, 2, -1, y, 1), rest[0], rest[1], rest[2]);
        Due.due(call, Due.ran(byNumber, x), Due.answer(holds ? 2 : 0));
        ProgramGate byRegister = Due.gate(Due.number(Due.MOVE, 3, y), Due.whole(op, 2, 3, x, 1),
            rest[0], rest[1], rest[2]);
        Due.due(call + " by register", Due.ran(byRegister, x), Due.answer(holds ? 2 : 0));
    }

    private static void relations() {
        int[][] pairs = {{3, 3}, {3, 4}, {4, 3}, {-1, 1}, {1, -1}, {MIN, MAX}, {MAX, MIN}, {-5, -4}, {-4, -5}};
        for (int[] p : pairs) {
            relation(Due.EQUAL, p[0], p[1], p[0] == p[1]);
            relation(Due.UNLIKE, p[0], p[1], p[0] != p[1]);
            relation(Due.LESS, p[0], p[1], Integer.compareUnsigned(p[0], p[1]) < 0);
            relation(Due.NOT_LESS, p[0], p[1], Integer.compareUnsigned(p[0], p[1]) >= 0);
            relation(Due.LESS_SIGNED, p[0], p[1], p[0] < p[1]);
            relation(Due.NOT_LESS_SIGNED, p[0], p[1], p[0] >= p[1]);
        }
    }

    private static void going() {
        ProgramGate x = Due.gate(Due.whole(Due.GO, 0, -1, 0, 2), Due.number(Due.MOVE, 0, 1), Due.end(),
            Due.number(Due.MOVE, 0, 3), Due.end());
        Due.due("go", Due.ran(x, 0), Due.answer(3));
        Due.due("ran", x.ran(), 3);
    }

    private static void passedEnd() {
        ProgramGate x = Due.gate(Due.whole(Due.GO, 0, -1, 0, 23), Due.end());
        Due.due("gone past", Due.ran(x, 0), Due.thrown(Due.THROWS_STATE));
        Due.due("ran", x.ran(), 1);
        // What an earlier program left behind its end is not run.
        x.clear();
        Due.append(x, Due.number(Due.MOVE, 0, 1));
        Due.due("walked past", Due.ran(x, 0), Due.thrown(Due.THROWS_STATE));
        Due.due("ran", x.ran(), 1);
        ProgramGate empty = new ProgramGate();
        Due.due("empty", Due.ran(empty, 0), Due.thrown(Due.THROWS_STATE));
        Due.due("ran", empty.ran(), 0);
    }

    private static void ranCounts() {
        ProgramGate x = Due.gate(Due.end());
        Due.due("only END", Due.ran(x, 0), Due.answer(0));
        Due.due("ran", x.ran(), 1);
        Due.due("walk refuses it", x.walk(), 300);
        Due.due("ran stays", x.ran(), 1);
        x.clear();
        Due.append(x, Due.whole(Due.LOAD, 0, 2, 0, 1), Due.end());
        Due.due("no byte", Due.ran(x, 0), Due.thrown(Due.THROWS_INDEX));
        Due.due("ran", x.ran(), 1);
        x.clear();
        Due.due("an empty program", Due.ran(x, 0), Due.thrown(Due.THROWS_STATE));
        Due.due("ran anew", x.ran(), 0);
    }
}
