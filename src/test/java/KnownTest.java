import java.util.Arrays;

/** Promise 10, and with it what is known after each instruction. */
public final class KnownTest {
    public static void main(String[] args) {
        wrongArguments();
        whichWay();
        waysApart();
        atTheBeginning();
        numbers();
        sums();
        differences();
        products();
        bitwise();
        shifts();
        divisions();
        safe();
        loads();
        stack();
        equal();
        less();
        lessSigned();
        oneRegisterTwice();
        Due.finish();
    }

    private static void wrongArguments() {
        ProgramGate x = Due.gate(Told.startedAndEnded());
        for (int r = -1; r <= 6; r++) {
            Due.due("known before any walk", x.known(r, 0), Due.UNTOLD);
        }
        Due.due("walk", x.walk(), 0);
        for (int r : new int[] {-1, 6, 10, Integer.MIN_VALUE, Integer.MAX_VALUE}) {
            for (int what = 0; what <= 6; what++) {
                Due.due("known of " + r, x.known(r, what), Due.UNTOLD);
            }
        }
        for (int what : new int[] {-1, 7, Integer.MIN_VALUE, Integer.MAX_VALUE}) {
            for (int r = 0; r <= 5; r++) {
                Due.due("known, what = " + what, x.known(r, what), Due.UNTOLD);
            }
        }
        for (int r = 3; r <= 5; r++) {
            for (int what = 0; what <= 6; what++) {
                Due.due("known of the unset " + r, x.known(r, what), Due.UNTOLD);
            }
        }
    }

    private static void whichWay() {
        ProgramGate x = Due.gate(Due.number(Due.MOVE, 0, 1), Due.whole(Due.BEYOND, 0, 1, 0, 2),
            Due.number(Due.MOVE, 3, 7), Due.end(), Due.number(Due.MOVE, 0, 2), Due.end());
        Due.due("walk", x.walk(), 0);
        Due.due("the latest END", x.known(0, 2), 2);
        Due.due("unset on that way", x.known(3, 2), Due.UNTOLD);
        // The second way raises an alarm: the first one is the latest that came to END.
        x.clear();
        Due.due("what was known stays", x.known(0, 2), 2);
        Due.append(x, Due.number(Due.MOVE, 0, 1), Due.whole(Due.BEYOND, 0, 1, 0, 2),
            Due.number(Due.MOVE, 3, 7), Due.end(), Due.number(Due.MOVE, 0, 2));
        Due.due("only the latest walk counts, not the program", x.known(0, 2), 2);
        Due.due("walk", x.walk(), 105);
        Due.due("the END before the alarm", x.known(0, 2), 1);
        Due.due("set on that way", x.known(3, 2), 7);
        x.run(0);
        Due.due("a run changes nothing", x.known(3, 2), 7);
        // No way comes to END in the latest walk.
        x.clear();
        Due.due("walk", x.walk(), 100);
        for (int r = 0; r < 6; r++) {
            Due.due("no END", x.known(r, 0), Due.UNTOLD);
        }
    }

    /** What one way does to a register or a place the other one does not know of. */
    private static void waysApart() {
        for (int place = 0; place <= 3; place++) {
            ProgramGate x = Due.gate(Due.number(Due.MOVE, 0, 5), Due.number(Due.PUT, 0, place),
                Due.whole(Due.BEYOND, 0, 1, 0, 3), Due.number(Due.MOVE, 0, 7), Due.number(Due.PUT, 0, place), Due.end(),
                Due.number(Due.GET, 4, place), Due.end());
            Due.due("walk", x.walk(), 0);
            Due.due("place " + place + " on the way that goes", x.known(4, 2), 5);
        }
        for (int r = 0; r <= 5; r++) {
            ProgramGate x = Due.gate(Due.number(Due.MOVE, 0, 5), Due.number(Due.MOVE, r, 5),
                Due.whole(Due.BEYOND, 0, 1, 0, 2), Due.number(Due.MOVE, r, 7), Due.end(), Due.end());
            Due.due("walk", x.walk(), 0);
            Due.due("register " + r + " on the way that goes", x.known(r, 3), 5);
        }
    }

    private static void atTheBeginning() {
        Told.after(1, Told.LENGTH);
        Told.after(2, Told.NOTHING);
    }

    private static void numbers() {
        Told.after(3, Due.row(Told.ALL, 5, 5, 5, 5, 5, 0), Due.number(Due.MOVE, 3, 5));
        Told.after(3, Due.row(Told.ALL, Told.ALL, Told.ALL, Told.ALL, -1, -1, 0), Due.number(Due.MOVE, 3, -1));
        Told.after(3, Due.row(Told.ALL, Told.HALF, Told.HALF, Told.HALF, Told.MIN, Told.MIN, 0),
            Due.number(Due.MOVE, 3, Integer.MIN_VALUE));
        Told.after(3, Told.LENGTH, Due.register(Due.MOVE, 3, 1));
    }

    private static void sums() {
        Told.after(1, Told.upTo(0xFFFFFFE0L, 4, 20), Due.number(Due.ADD, 1, 4));
        Told.after(1, Told.upTo(0xFFFFFFC0L, 0, 32), Due.register(Due.ADD, 1, 1));
        Told.after(2, Told.NOTHING, Due.number(Due.ADD, 2, 1));
        // The lowest bits are known, up to the first unknown one.
        Told.after(2, Due.row(15, 5, 5, 4294967285L, Told.MIN, Told.MAX, 0), Due.number(Due.LEFT, 2, 4),
            Due.number(Due.ADD, 2, 5));
        Told.after(2, Due.row(15, 8, 8, Told.ALL - 7, Told.MIN, Told.MAX, 0), Due.number(Due.LEFT, 2, 4),
            Due.number(Due.ADD, 2, -8));
        // Passing 2^32: the signed bounds hold alone, or none.
        Told.after(1, Due.row(0, 0, 0, Told.ALL, -1, 15, 0), Due.number(Due.ADD, 1, -1));
        Told.after(1, Due.row(0xFFFFFFE0L, Told.HALF, Told.HALF, Told.HALF + 16, Told.MIN, Told.MIN + 16, 0),
            Due.number(Due.ADD, 1, Integer.MIN_VALUE));
        Told.after(1, Due.row(0, 0, Told.MAX - 1, Told.HALF + 14, Told.MIN, Told.MAX, 0),
            Due.number(Due.ADD, 1, Integer.MAX_VALUE - 1));
        Told.after(3, Due.row(Told.ALL, 0, 0, 0, 0, 0, 0), Due.number(Due.MOVE, 3, -1), Due.number(Due.ADD, 3, 1));
    }

    private static void differences() {
        Told.after(1, Due.row(0, 0, 0, Told.ALL, -16, 0, 0), Due.number(Due.SUBTRACT, 1, 16));
        Told.after(1, Told.LENGTH, Due.number(Due.ADD, 1, 1), Due.number(Due.SUBTRACT, 1, 1));
        Told.after(1, Due.row(0, 0, 0, Told.ALL, -16, 16, 0), Due.register(Due.SUBTRACT, 1, 1));
        Told.after(3, Due.row(0xFFFFFFC0L, 64, 84, 100, 84, 100, 0), Due.number(Due.MOVE, 3, 100),
            Due.register(Due.SUBTRACT, 3, 1));
        Told.after(2, Told.NOTHING, Due.number(Due.SUBTRACT, 2, 1));
        // Neither the unsigned difference nor the signed one can be told.
        Told.after(1, Told.NOTHING, Due.number(Due.SUBTRACT, 1, Integer.MIN_VALUE));
        // LEAST less MOST is an int, MOST less LEAST is none: no signed bound at all.
        Told.after(1, Told.NOTHING, Due.number(Due.SUBTRACT, 1, Integer.MIN_VALUE + 2));
        Told.after(2, Due.row(15, 13, 13, Told.ALL - 2, Told.MIN, Told.MAX, 0), Due.number(Due.LEFT, 2, 4),
            Due.number(Due.SUBTRACT, 2, 3));
    }

    private static void products() {
        Told.after(1, Told.upTo(0xFFFFFFC0L, 0, 48), Due.number(Due.MULTIPLY, 1, 3));
        Told.after(1, Told.upTo(0xFFFFFFC0L, 3, 51), Due.number(Due.ADD, 1, 1), Due.number(Due.MULTIPLY, 1, 3));
        // 16 times this is just below 2^32, and 2^32.
        Told.after(1, Due.row(0, 0, 0, 4294967280L, Told.MIN, Told.MAX, 0), Due.number(Due.MULTIPLY, 1, 268435455));
        Told.after(1, Told.NOTHING, Due.number(Due.MULTIPLY, 1, 268435457));
        Told.after(2, Told.NOTHING, Due.register(Due.MULTIPLY, 2, 2));
        Told.after(2, Told.NOTHING, Due.number(Due.MULTIPLY, 2, -1));
        Told.after(2, Due.row(15, 0, 0, 4294967280L, Told.MIN, Told.MAX, 0), Due.number(Due.LEFT, 2, 4),
            Due.number(Due.MULTIPLY, 2, 4));
        Told.after(3, Due.row(Told.ALL, 4294967281L, 4294967281L, 4294967281L, -15, -15, 0), Due.number(Due.MOVE, 3, 5),
            Due.number(Due.MULTIPLY, 3, -3));
    }

    private static void bitwise() {
        int[] low4 = Due.number(Due.AND, 2, 15);
        Told.after(2, Told.upTo(0xFFFFFFF0L, 0, 15), low4);
        Told.after(2, Due.row(0xFFFFFFF8L, 8, 8, 15, 8, 15, 0), low4, Due.number(Due.OR, 2, 8));
        Told.after(2, Due.row(0xFFFFFFF8L, 248, 248, 255, 248, 255, 0), low4, Due.number(Due.OR, 2, 8),
            Due.number(Due.XOR, 2, 240));
        Told.after(2, Told.NOTHING, Due.register(Due.XOR, 2, 2));
        Told.after(2, Told.NOTHING, Due.number(Due.XOR, 2, -1));
        // AND: the lesser HIGH, OR: the greater LOW, where the bits tell less.
        Told.after(1, Told.LENGTH, Due.register(Due.AND, 1, 1));
        Told.after(1, Told.LENGTH, Due.register(Due.AND, 1, 2));
        Told.after(2, Told.LENGTH, Due.register(Due.AND, 2, 1));
        Told.after(1, Told.upTo(0xFFFFFFE0L, 3, 31), Due.number(Due.ADD, 1, 3), Due.register(Due.OR, 1, 1));
        Told.after(2, Due.row(0, 0, 3, Told.ALL, Told.MIN, Told.MAX, 0), Due.number(Due.ADD, 1, 3),
            Due.register(Due.OR, 2, 1));
        Told.after(2, Due.row(Told.HALF, Told.HALF, Told.HALF, Told.ALL, Told.MIN, -1, 0),
            Due.number(Due.OR, 2, Integer.MIN_VALUE));
        Told.after(2, Due.row(1, 1, 1, Told.ALL, Told.MIN, Told.MAX, 0), Due.number(Due.OR, 2, 1));
        Told.after(2, Due.row(1, 0, 0, Told.ALL - 1, Told.MIN, Told.MAX, 0), Due.number(Due.OR, 2, 1),
            Due.number(Due.XOR, 2, 1));
    }

    private static void shifts() {
        Told.after(1, Told.upTo(0xFFFFFF83L, 0, 124), Due.number(Due.LEFT, 1, 2));
        // The bounds are not shifted to the left: what the bits tell is left.
        Told.after(1, Told.upTo(0xFFFFFFE0L, 0, 31), Due.number(Due.LEFT, 1, 0));
        Told.after(1, Told.upTo(0xFFFFFFE0L, 0, 31), Due.number(Due.LEFT, 1, 32));
        Told.after(1, Told.upTo(0xFFFFFFF8L, 0, 4), Due.number(Due.RIGHT, 1, 2));
        Told.after(1, Told.upTo(0xFFFFFFF8L, 0, 4), Due.number(Due.RIGHT, 1, -30));
        Told.after(2, Told.upTo(0xFFFFFFF0L, 0, 15), Due.number(Due.RIGHT, 2, 28));
        Told.after(2, Told.upTo(0xFFFFFFF0L, 0, 15), Due.number(Due.RIGHT, 2, 60));
        Told.after(2, Told.NOTHING, Due.number(Due.RIGHT, 2, 0));
        Told.after(2, Due.row(0, 0, 0, Told.ALL, -8, 7, 0), Due.number(Due.RIGHT_SIGNED, 2, 28));
        Told.after(2, Due.row(0xF8000000L, 0xF8000000L, 0xF8000000L, Told.ALL, -134217728, -1, 0),
            Due.number(Due.OR, 2, Integer.MIN_VALUE), Due.number(Due.RIGHT_SIGNED, 2, 4));
        Told.after(1, Told.upTo(0xFFFFFFF8L, 0, 4), Due.number(Due.RIGHT_SIGNED, 1, 2));
        Told.after(2, Due.row(1, 1, 1, Told.ALL, Told.MIN >> 1, Told.MAX >> 1, 0), Due.number(Due.OR, 2, 2),
            Due.number(Due.RIGHT_SIGNED, 2, 1));
        Told.after(1, Due.row(0xFFFFFFE0L, 0xFFFFFFC0L, Told.ALL - 49, Told.ALL - 41, -50, -42, 0),
            Due.number(Due.SUBTRACT, 1, 100),
            Due.number(Due.RIGHT_SIGNED, 1, 1));
        Told.after(3, Due.row(Told.ALL, Told.ALL - 3, Told.ALL - 3, Told.ALL - 3, -4, -4, 0),
            Due.number(Due.MOVE, 3, -16),
            Due.number(Due.RIGHT_SIGNED, 3, 2));
        for (int op = Due.LEFT; op <= Due.RIGHT_SIGNED; op++) {
            Told.after(3, Told.NOTHING, Due.number(Due.MOVE, 3, 1), Due.register(op, 3, 1));
            Told.after(3, Due.row(Told.ALL, 5, 5, 5, 5, 5, 0), Due.number(Due.MOVE, 4, 32), Due.number(Due.MOVE, 3, 5),
                Due.register(op, 3, 4));
        }
    }

    private static void divisions() {
        Told.after(2, Told.upTo(0xF0000000L, 0, 268435455), Due.number(Due.DIVIDE, 2, 16));
        Told.after(3, Told.upTo(0xFFFFFF80L, 5, 100), Due.number(Due.MOVE, 3, 100), Due.number(Due.ADD, 1, 1),
            Due.register(Due.DIVIDE, 3, 1));
        Told.after(1, Due.row(Told.ALL, 0, 0, 0, 0, 0, 0), Due.number(Due.DIVIDE, 1, 17));
        Told.after(2, Told.upTo(0xFFFFFFFEL, 0, 1), Due.number(Due.DIVIDE, 2, -1));
        Told.after(2, Told.upTo(0xFFFFFFF0L, 0, 9), Due.number(Due.REST, 2, 10));
        Told.after(1, Told.LENGTH, Due.number(Due.REST, 1, 100));
        Told.after(1, Told.LENGTH, Due.number(Due.REST, 1, -1));
        Told.after(3, Told.upTo(0xFFFFFFF8L, 0, 7), Due.number(Due.MOVE, 3, 7), Due.number(Due.REST, 3, 10));
        Told.after(2, Told.upTo(0xFFFFFFE0L, 0, 16), Due.number(Due.ADD, 1, 1), Due.register(Due.REST, 2, 1));
    }

    private static String safeOf(ProgramGate x, int r) {
        x.walk();
        return Long.toString(x.known(r, 6));
    }

    /** SAFE of r after a BEYOND of 8 with register 2, which is 0 .. 15, and the instructions. */
    private static void safeAfter(int r, int want, int[]... program) {
        int[][] all = new int[program.length + 2][];
        all[0] = Due.number(Due.AND, 2, 15);
        all[1] = Due.whole(Due.BEYOND, 0, 2, 8, 23);
        System.arraycopy(program, 0, all, 2, program.length);
        ProgramGate x = Due.gate(Told.startedAndEnded(all));
        Due.due("SAFE of " + r + " after " + Arrays.deepToString(program), safeOf(x, r), Integer.toString(want));
    }

    private static void safe() {
        safeAfter(2, 8);
        safeAfter(1, 0);
        safeAfter(3, 8, Due.register(Due.MOVE, 3, 2));
        safeAfter(2, 8, Due.number(Due.ADD, 2, 0));
        safeAfter(2, 5, Due.number(Due.ADD, 2, 3));
        safeAfter(2, 0, Due.number(Due.ADD, 2, 8));
        safeAfter(2, 0, Due.number(Due.ADD, 2, 9));
        safeAfter(2, 0, Due.number(Due.ADD, 2, 21));
        safeAfter(2, 0, Due.number(Due.ADD, 2, -1));
        safeAfter(2, 5, Due.number(Due.MOVE, 3, 3), Due.register(Due.ADD, 2, 3));
        safeAfter(3, 0, Due.number(Due.MOVE, 3, 3), Due.register(Due.ADD, 3, 2));
        safeAfter(2, 0, Due.register(Due.ADD, 2, 1));
        for (int op : new int[] {Due.SUBTRACT, Due.OR, Due.XOR, Due.LEFT, Due.RIGHT, Due.RIGHT_SIGNED}) {
            safeAfter(2, 0, Due.number(op, 2, 0));
        }
        safeAfter(2, 0, Due.number(Due.MULTIPLY, 2, 1));
        safeAfter(2, 0, Due.number(Due.AND, 2, -1));
        safeAfter(2, 0, Due.number(Due.DIVIDE, 2, 1));
        safeAfter(2, 0, Due.number(Due.REST, 2, 99));
        safeAfter(2, 8, Due.whole(Due.BEYOND, 0, 2, 4, 23));
        safeAfter(2, 12, Due.whole(Due.BEYOND, 0, 2, 12, 23));
        safeAfter(3, 0, Due.register(Due.MOVE, 3, 1), Due.whole(Due.NOT_LESS, 3, 2, 0, 23));
        safeAfter(2, 8, Due.register(Due.MOVE, 3, 1), Due.whole(Due.NOT_LESS, 3, 2, 0, 23));
        safeAfter(2, 0, Due.whole(Due.LOAD, 2, 2, 0, 1));
        safeAfter(2, 0, Due.whole(Due.LOAD, 2, 2, 0, 4));
        // HIGH 2^32 - 4, so that 3 fits above it and 4 does not.
        int[] below = Due.whole(Due.NOT_LESS, 2, -1, -3, 23);
        int[] guard = Due.whole(Due.BEYOND, 0, 2, 8, 23);
        Due.due("SAFE below 2^32", safeOf(Due.gate(Told.startedAndEnded(below, guard, Due.number(Due.ADD, 2, 3))), 2),
            "5");
        Due.due("SAFE at 2^32", safeOf(Due.gate(Told.startedAndEnded(below, guard, Due.number(Due.ADD, 2, 4))), 2),
            "0");
        // Where BEYOND goes, what was known; that way is the later one here.
        ProgramGate x = Due.gate(Told.startedAndEnded(Due.whole(Due.BEYOND, 0, 2, 8, 1), Due.end()));
        Due.due("SAFE where BEYOND goes", safeOf(x, 2), "0");
    }

    private static void loads() {
        int[] guard = Due.whole(Due.BEYOND, 0, 1, 4, 23);
        Told.after(3, Told.upTo(0xFFFFFF00L, 0, 255), guard, Due.whole(Due.LOAD, 3, 1, 3, 1));
        Told.after(3, Told.upTo(0xFFFF0000L, 0, 65535), guard, Due.whole(Due.LOAD, 3, 1, 2, 2));
        Told.after(3, Told.NOTHING, guard, Due.whole(Due.LOAD, 3, 1, 0, 4));
        Told.after(1, Due.row(0xFFFFFFE0L, 0, 0, 16, 0, 16, 4), guard, Due.whole(Due.LOAD, 3, 1, 0, 4));
    }

    private static void stack() {
        int[] five = Due.number(Due.MOVE, 3, 5);
        int[] seven = Due.number(Due.MOVE, 4, 7);
        int[] bit = Due.number(Due.AND, 2, 1);
        int[] put5At0 = Due.number(Due.PUT, 3, 0);
        int[] put7At1 = Due.number(Due.PUT, 4, 1);
        String either = Due.row(0xFFFFFFFDL, 5, 5, 7, 5, 7, 0);
        Told.after(5, either, five, seven, bit, put5At0, put7At1, Due.register(Due.GET, 5, 2));
        Told.after(2, either, five, seven, bit, put5At0, put7At1, Due.register(Due.GET, 2, 2));
        Told.after(5, Due.row(Told.ALL, 7, 7, 7, 7, 7, 0), five, seven, put5At0, put7At1, Due.number(Due.GET, 5, 1));
        Told.after(5, either, five, seven, bit, put5At0, Due.register(Due.PUT, 4, 2), Due.number(Due.GET, 5, 0));
        Told.after(5, Due.row(Told.ALL, 7, 7, 7, 7, 7, 0), five, seven, put5At0, Due.number(Due.PUT, 4, 0),
            Due.number(Due.GET, 5, 0));
        // A PUT to 2 or 3 leaves 0 and 1 as they are.
        Told.after(5, Due.row(Told.ALL, 5, 5, 5, 5, 5, 0), five, seven, bit, Due.number(Due.ADD, 2, 2), put5At0,
            Due.number(Due.PUT, 3, 1), Due.register(Due.PUT, 4, 2), Due.number(Due.GET, 5, 1));
        // A PUT to 0 .. 3 meets all four of them; one to 1 or 2 those two.
        for (int place = 0; place <= 3; place++) {
            Told.after(5, either, five, seven, Due.number(Due.AND, 2, 3), put5At0, Due.number(Due.PUT, 3, 1),
                Due.number(Due.PUT, 3, 2), Due.number(Due.PUT, 3, 3), Due.register(Due.PUT, 4, 2),
                Due.number(Due.GET, 5, place));
            Told.after(5, place == 1 || place == 2 ? either : Due.row(Told.ALL, 5, 5, 5, 5, 5, 0), five, seven, bit,
                Due.number(Due.ADD, 2, 1), put5At0, Due.number(Due.PUT, 3, 1), Due.number(Due.PUT, 3, 2),
                Due.number(Due.PUT, 3, 3), Due.register(Due.PUT, 4, 2), Due.number(Due.GET, 5, place));
        }
        // Numbers of either sign: LOW and HIGH, LEAST and MOST each for themselves.
        Told.after(5, Due.row(1, 1, 1, Told.ALL, -1, 1, 0), Due.number(Due.MOVE, 3, 1), Due.number(Due.MOVE, 4, -1),
            bit, put5At0, put7At1, Due.register(Due.GET, 5, 2));
        // The lesser SAFE.
        safeAfter(4, 8, Due.number(Due.PUT, 2, 0), Due.number(Due.GET, 4, 0));
        safeAfter(4, 5, Due.number(Due.PUT, 2, 0), Due.number(Due.ADD, 2, 3), Due.number(Due.PUT, 2, 1),
            Due.number(Due.AND, 2, 1), Due.register(Due.GET, 4, 2));
        safeAfter(4, 5, Due.register(Due.MOVE, 3, 2), Due.number(Due.PUT, 2, 1), Due.number(Due.ADD, 3, 3),
            Due.number(Due.PUT, 3, 0), Due.number(Due.AND, 2, 1), Due.register(Due.GET, 4, 2));
    }

    private static void equal() {
        Told.where(Due.EQUAL, 2, 1, 0, 2, Told.LENGTH);
        Told.where(Due.EQUAL, 2, 1, 0, 1, Told.LENGTH);
        Told.where(Due.EQUAL, 1, 2, 0, 1, Told.LENGTH);
        Told.where(Due.EQUAL, 1, 2, 0, 2, Told.LENGTH);
        Told.where(Due.EQUAL, 2, -1, 9, 2, Due.row(Told.ALL, 9, 9, 9, 9, 9, 0));
        Told.where(Due.EQUAL, 2, -1, -9, 2, Due.row(Told.ALL, Told.ALL - 8, Told.ALL - 8, Told.ALL - 8, -9, -9, 0));
        Told.where(Due.UNLIKE, 2, 1, 0, 2, Told.NOTHING);
        Told.where(Due.UNLIKE, 2, 1, 0, 1, Told.LENGTH);
        Told.where(Due.UNLIKE, 2, -1, 9, 2, Told.NOTHING);
        // An even number and one from 4 to 20.
        int[] even = Due.number(Due.LEFT, 2, 1);
        int[] more = Due.number(Due.ADD, 1, 4);
        Told.where(Due.EQUAL, 2, 1, 0, 1, Told.upTo(0xFFFFFFE1L, 4, 20), even, more);
        Told.where(Due.EQUAL, 2, 1, 0, 2, Told.upTo(0xFFFFFFE1L, 4, 20), even, more);
        // The bounds of both, unsigned and signed, and the greater SAFE.
        int[][] pair = {Due.register(Due.MOVE, 3, 1), Due.number(Due.ADD, 3, 5), Due.whole(Due.BEYOND, 0, 1, 8, 23),
            Due.whole(Due.BEYOND, 0, 3, 4, 23)};
        Told.where(Due.EQUAL, 3, 1, 0, 1, Due.row(0xFFFFFFE0L, 0, 5, 16, 5, 16, 8), pair);
        Told.where(Due.EQUAL, 3, 1, 0, 3, Due.row(0xFFFFFFE0L, 0, 5, 16, 5, 16, 8), pair);
        Told.where(Due.EQUAL, 1, 3, 0, 3, Due.row(0xFFFFFFE0L, 0, 5, 16, 5, 16, 8), pair);
        int[][] signed = {Due.register(Due.MOVE, 3, 1), Due.number(Due.SUBTRACT, 3, 8), Due.register(Due.MOVE, 4, 1),
            Due.number(Due.SUBTRACT, 4, 12)};
        Told.where(Due.EQUAL, 3, 4, 0, 3, Due.row(0, 0, 0, Told.ALL, -8, 4, 0), signed);
        Told.where(Due.EQUAL, 3, 4, 0, 4, Due.row(0, 0, 0, Told.ALL, -8, 4, 0), signed);
    }

    private static void less() {
        Told.where(Due.LESS, 2, -1, 100, 2, Told.upTo(0xFFFFFF80L, 0, 99));
        Told.where(Due.NOT_LESS, 2, -1, 100, 2, Due.row(0, 0, 100, Told.ALL, Told.MIN, Told.MAX, 0));
        Told.where(Due.LESS, 2, -1, -1, 2, Due.row(0, 0, 0, Told.ALL - 1, Told.MIN, Told.MAX, 0));
        Told.where(Due.NOT_LESS, 2, -1, Integer.MIN_VALUE, 2,
            Due.row(Told.HALF, Told.HALF, Told.HALF, Told.ALL, Told.MIN, -1, 0));
        Told.where(Due.NOT_LESS, 2, -1, -1, 2, Due.row(Told.ALL, Told.ALL, Told.ALL, Told.ALL, -1, -1, 0));
        // 5 .. 20 in register 3, 0 .. 16 in register 1.
        int[][] before = {Due.register(Due.MOVE, 3, 2), Due.number(Due.AND, 3, 15), Due.number(Due.ADD, 3, 5)};
        Told.where(Due.LESS, 3, 1, 0, 3, Told.upTo(0xFFFFFFF0L, 5, 15), before);
        Told.where(Due.LESS, 3, 1, 0, 1, Told.upTo(0xFFFFFFE0L, 6, 16), before);
        Told.where(Due.NOT_LESS, 3, 1, 0, 3, Told.upTo(0xFFFFFFE0L, 5, 20), before);
        Told.where(Due.NOT_LESS, 3, 1, 0, 1, Told.LENGTH, before);
        Told.where(Due.LESS, 1, 3, 0, 1, Told.LENGTH, before);
        Told.where(Due.LESS, 1, 3, 0, 3, Told.upTo(0xFFFFFFE0L, 5, 20), before);
        Told.where(Due.NOT_LESS, 1, 3, 0, 1, Told.upTo(0xFFFFFFE0L, 5, 16), before);
        Told.where(Due.NOT_LESS, 1, 3, 0, 3, Told.upTo(0xFFFFFFE0L, 5, 16), before);
    }

    private static void lessSigned() {
        Told.where(Due.LESS_SIGNED, 2, -1, 0, 2, Due.row(Told.HALF, Told.HALF, Told.HALF, Told.ALL, Told.MIN, -1, 0));
        Told.where(Due.NOT_LESS_SIGNED, 2, -1, 0, 2, Told.upTo(Told.HALF, 0, Told.MAX));
        Told.where(Due.LESS_SIGNED, 2, -1, 5, 2, Due.row(0, 0, 0, Told.ALL, Told.MIN, 4, 0));
        Told.where(Due.NOT_LESS_SIGNED, 2, -1, -5, 2, Due.row(0, 0, 0, Told.ALL, -5, Told.MAX, 0));
        Told.where(Due.NOT_LESS_SIGNED, 2, -1, Integer.MAX_VALUE, 2,
            Due.row(Told.ALL, Told.MAX, Told.MAX, Told.MAX, Told.MAX, Told.MAX, 0));
        // -8 .. 8 in register 3, 0 .. 16 in register 1.
        int[][] before = {Due.register(Due.MOVE, 3, 1), Due.number(Due.SUBTRACT, 3, 8)};
        Told.where(Due.LESS_SIGNED, 1, 3, 0, 1, Told.upTo(0xFFFFFFF8L, 0, 7), before);
        Told.where(Due.LESS_SIGNED, 1, 3, 0, 3, Told.upTo(0xFFFFFFF0L, 1, 8), before);
        Told.where(Due.NOT_LESS_SIGNED, 1, 3, 0, 1, Told.LENGTH, before);
        Told.where(Due.NOT_LESS_SIGNED, 1, 3, 0, 3, Due.row(0, 0, 0, Told.ALL, -8, 8, 0), before);
        Told.where(Due.LESS_SIGNED, 3, 1, 0, 3, Due.row(0, 0, 0, Told.ALL, -8, 8, 0), before);
        Told.where(Due.NOT_LESS_SIGNED, 3, 1, 0, 3, Told.upTo(0xFFFFFFF0L, 0, 8), before);
        Told.where(Due.NOT_LESS_SIGNED, 3, 1, 0, 1, Told.upTo(0xFFFFFFF0L, 0, 8), before);
    }

    private static void oneRegisterTwice() {
        Told.where(Due.LESS, 1, 1, 0, 1, Told.upTo(0xFFFFFFE0L, 1, 16));
        Told.where(Due.NOT_LESS, 1, 1, 0, 1, Told.LENGTH);
        Told.where(Due.LESS_SIGNED, 1, 1, 0, 1, Told.upTo(0xFFFFFFE0L, 1, 16));
        Told.where(Due.NOT_LESS_SIGNED, 1, 1, 0, 1, Told.LENGTH);
        Told.where(Due.EQUAL, 1, 1, 0, 1, Told.LENGTH);
        Told.where(Due.UNLIKE, 1, 1, 0, 1, Told.LENGTH);
    }
}
