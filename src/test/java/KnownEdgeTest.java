import java.util.Arrays;

/** The edges that 'Terms' names from WHAT IS KNOWN to THE MEET, sentence by sentence. */
public final class KnownEdgeTest {
    private static final long ALL = Told.ALL;
    private static final long HALF = Told.HALF;
    private static final int MIN = Integer.MIN_VALUE;
    private static final int MAX = Integer.MAX_VALUE;

    public static void main(String[] args) {
        safeTogether();
        nothing();
        numbers();
        exactly();
        tightenByBits();
        tightenSigned();
        tightenUnsigned();
        tightenBits();
        tightenOnceInOrder();
        impossible();
        lowestBits();
        bitsInTheirPlace();
        bitsShifted();
        bitsOfSignedShifts();
        noBits();
        widestBounds();
        sums();
        differences();
        products();
        lesserHigh();
        greaterLow();
        boundsShifted();
        signedBoundsShifted();
        quotients();
        rests();
        roundedDown();
        impossibleAfterAnOperation();
        safeAfterAdd();
        safeAfterAnythingElse();
        moved();
        theMeet();
        Due.finish();
    }

    /** Register r is at least n, unsigned; the other way is left for the end. */
    private static int[] atLeast(int r, int n) {
        return Due.whole(Due.LESS, r, -1, n, 23);
    }

    /** Register r is less than n, unsigned; the other way is left for the end. */
    private static int[] below(int r, int n) {
        return Due.whole(Due.NOT_LESS, r, -1, n, 23);
    }

    private static int[] atLeastSigned(int r, int n) {
        return Due.whole(Due.LESS_SIGNED, r, -1, n, 23);
    }

    private static int[] belowSigned(int r, int n) {
        return Due.whole(Due.NOT_LESS_SIGNED, r, -1, n, 23);
    }

    /** SAFE of r is at least n; the other way is left for the end. */
    private static int[] within(int r, int n) {
        return Due.whole(Due.BEYOND, 0, r, n, 23);
    }

    /** Register 3 is a multiple of 2^by from low to 2^(by + 1) - 1: the bits then tell more than the bounds. */
    private static int[][] multiple(int by, int low) {
        return new int[][] {Due.register(Due.MOVE, 3, 2), Due.number(Due.LEFT, 3, by), atLeast(3, low),
            below(3, 2 << by)};
    }

    private static void safeTogether() {
        Due.says("SAFE, a number w, 0 .. 20: x unsigned and w together are at most the packet's length, if w is"
            + " not 0.");
        for (int w = 0; w <= 16; w++) {
            Told.after(2, Due.row(0, 0, 0, ALL, MIN, MAX, w), within(2, w));
            ProgramGate x = Due.gate(Due.whole(Due.BEYOND, 0, 2, w, 2), Due.number(Due.MOVE, 0, 1), Due.end(),
                Due.end());
            x.packet(0, 0, 16);
            for (int argument : new int[] {0, 16 - w, 17 - w, 16, 17, -1, MIN}) {
                boolean together = (argument & ALL) + w <= 16;
                Due.due("a run with " + argument + " and " + w, Due.ran(x, argument), Due.answer(together ? 1 : 0));
            }
        }
        // 16 is the most that BEYOND can tell, so 20 bytes are never safe, and SAFE 0 makes none so.
        int[] guard = Due.whole(Due.BEYOND, 0, 2, 16, 1);
        Due.walks("16 and 4", 702, 3, Told.startedAndEnded(guard, Due.whole(Due.LOAD, 0, 2, 16, 4)));
        Due.walks("12 and 4", 0, 5, Told.startedAndEnded(guard, Due.whole(Due.LOAD, 0, 2, 12, 4)));
        Due.walks("0 and 1", 701, 2, Told.startedAndEnded(Due.whole(Due.LOAD, 0, 2, 0, 1)));
    }

    private static void nothing() {
        Due.says("Of a number of which NOTHING is known, no bit is, the bounds are the widest, SAFE is 0.");
        Told.after(2, Due.row(0, 0, 0, 4294967295L, -2147483648L, 2147483647L, 0));
    }

    private static void numbers() {
        Due.says("What is known of a number n that stands in the program: all bits, all bounds n, SAFE 0.");
        Told.after(3, Due.row(ALL, 0, 0, 0, 0, 0, 0), Due.number(Due.MOVE, 3, 0));
        Told.after(3, Due.row(ALL, 20, 20, 20, 20, 20, 0), Due.number(Due.MOVE, 3, 20));
        Told.after(3, Due.row(ALL, ALL, ALL, ALL, -1, -1, 0), Due.number(Due.MOVE, 3, -1));
        Told.after(3, Due.row(ALL, HALF, HALF, HALF, MIN, MIN, 0), Due.number(Due.MOVE, 3, MIN));
        Told.after(3, Due.row(ALL, MAX, MAX, MAX, MAX, MAX, 0), Due.number(Due.MOVE, 3, MAX));
    }

    private static void exactly() {
        Due.says("A number is known EXACTLY if its LOW is its HIGH.");
        // A multiple of 4 from 4 to 7: all its bits are known, its LOW is not its HIGH.
        int[][] four = multiple(2, 4);
        Told.after(3, Due.row(ALL, 4, 4, 7, 4, 7, 0), four);
        int[] one = Due.number(Due.MOVE, 4, 1);
        for (int op = Due.LEFT; op <= Due.RIGHT_SIGNED; op++) {
            Told.after(4, Told.NOTHING, Told.joined(four, one, Due.register(op, 4, 3)));
        }
        Told.walked(true, Due.UNLIKE, 3, -1, 4, four);
        // One more operation tightens it.
        int[][] tightened = Told.joined(four, Due.number(Due.ADD, 3, 0));
        Told.after(3, Told.exactly(4), tightened);
        Told.after(4, Told.exactly(16), Told.joined(tightened, one, Due.register(Due.LEFT, 4, 3)));
        Told.walked(false, Due.UNLIKE, 3, -1, 4, tightened);
        // A multiple of 2 from 2 to 3 is no one place: a PUT there sets none.
        int[] put = Due.register(Due.PUT, 0, 3);
        int[] get = Due.number(Due.GET, 0, 2);
        int[][] two = multiple(1, 2);
        Due.walks("PUT to what is not exact", 606, 7, Told.startedAndEnded(Told.joined(two, put, get)));
        Due.walks("PUT to what is exact", 128, 10,
            Told.startedAndEnded(Told.joined(two, Due.number(Due.ADD, 3, 0), put, get)));
    }

    private static void tightenByBits() {
        Due.says("(1) LOW becomes at least the number of the known ones alone, HIGH at most that number with all"
            + " unknown bits 1 (unsigned).");
        int[] six = Due.number(Due.AND, 2, 6);
        Told.after(2, Due.row(0xFFFFFFF9L, 1, 1, 7, 1, 7, 0), six, Due.number(Due.XOR, 2, 1));
        Told.after(2, Due.row(0xFFFFFFF9L, ALL - 7, ALL - 7, ALL - 1, -8, -2, 0), six, Due.number(Due.XOR, 2, -8));
        Told.after(2, Due.row(MAX, 0, 0, HALF, MIN, MAX, 0), Due.number(Due.LEFT, 2, 31));
        Told.after(2, Due.row(HALF, HALF, HALF, ALL, MIN, -1, 0), Due.number(Due.OR, 2, MIN));
        Told.after(2, Due.row(1, 1, 1, ALL, MIN, MAX, 0), Due.number(Due.OR, 2, 1));
        // The bits would allow 1 .. 31 and 0 .. 31: bounds that tell more stay.
        Told.after(1, Told.upTo(0xFFFFFFE0L, 3, 19), Due.number(Due.ADD, 1, 3));
        Told.after(1, Told.LENGTH, Due.number(Due.ADD, 1, 0));
    }

    private static void tightenSigned() {
        Due.says("(2) If LOW and HIGH are both below 2^31, or both not, LEAST becomes at least LOW as a number,"
            + " MOST at most HIGH as a number.");
        // HIGH is 2^31 - 1, then 2^31; LOW is 2^31, then 2^31 - 1.
        Told.where(Due.LESS, 2, -1, MIN, 2, Told.upTo(HALF, 0, MAX));
        Told.where(Due.LESS, 2, -1, MIN + 1, 2, Told.between(0, HALF, MIN, MAX));
        Told.where(Due.NOT_LESS, 2, -1, MIN, 2, Due.row(HALF, HALF, HALF, ALL, MIN, -1, 0));
        Told.where(Due.NOT_LESS, 2, -1, MAX, 2, Told.between(MAX, ALL, MIN, MAX));
        Told.where(Due.LESS, 2, -1, 101, 2, Told.upTo(0xFFFFFF80L, 5, 100), atLeast(2, 5));
        Told.where(Due.LESS, 2, -1, -6, 2, Due.row(HALF, HALF, HALF + 5, ALL - 6, MIN + 5, -7, 0), atLeast(2, MIN + 5));
    }

    private static void tightenUnsigned() {
        Due.says("(3) If LEAST and MOST are both below 0, or both not, LOW becomes at least LEAST unsigned, HIGH"
            + " at most MOST unsigned.");
        // MOST is -1, then 0; LEAST is 0, then -1.
        Told.where(Due.LESS_SIGNED, 2, -1, 0, 2, Due.row(HALF, HALF, HALF, ALL, MIN, -1, 0));
        Told.where(Due.LESS_SIGNED, 2, -1, 1, 2, Told.between(0, ALL, MIN, 0));
        Told.where(Due.NOT_LESS_SIGNED, 2, -1, 0, 2, Told.upTo(HALF, 0, MAX));
        Told.where(Due.NOT_LESS_SIGNED, 2, -1, -1, 2, Told.between(0, ALL, -1, MAX));
        Told.where(Due.LESS_SIGNED, 2, -1, 101, 2, Told.upTo(0xFFFFFF80L, 5, 100), atLeastSigned(2, 5));
        Told.where(Due.LESS_SIGNED, 2, -1, -4, 2, Due.row(0xFFFFFFF0L, 0xFFFFFFF0L, ALL - 8, ALL - 4, -9, -5, 0),
            atLeastSigned(2, -9));
    }

    private static void tightenBits() {
        Due.says("(4) The bits above the highest one in which LOW and HIGH differ (all, if they don't) become"
            + " known as they are in LOW.");
        Told.where(Due.LESS, 2, -1, 17, 2, Told.upTo(0xFFFFFFE0L, 0, 16));
        Told.where(Due.LESS, 2, -1, 16, 2, Told.upTo(0xFFFFFFF0L, 0, 15));
        Told.where(Due.LESS, 2, -1, 2, 2, Told.upTo(0xFFFFFFFEL, 0, 1));
        Told.where(Due.LESS, 2, -1, 1, 2, Told.exactly(0));
        Told.where(Due.LESS, 2, -1, -1, 2, Told.between(0, ALL - 1, MIN, MAX));
        Told.where(Due.NOT_LESS, 2, -1, -2, 2, Due.row(ALL - 1, ALL - 1, ALL - 1, ALL, -2, -1, 0));
        Told.where(Due.NOT_LESS, 2, -1, -1, 2, Told.exactly(-1));
        Told.where(Due.LESS, 2, -1, 0x60, 2, Due.row(0xFFFFFFF0L, 0x50, 0x50, 0x5F, 0x50, 0x5F, 0), atLeast(2, 0x50));
        Told.where(Due.LESS, 2, -1, 0x61, 2, Due.row(0xFFFFFFC0L, 0x40, 0x50, 0x60, 0x50, 0x60, 0), atLeast(2, 0x50));
    }

    private static void tightenOnceInOrder() {
        Due.says("TO TIGHTEN: (1)");
        // (3) narrows LOW and HIGH to 2^31 .. 2^31 + 4; (2) has been before, so MOST is still -1.
        Told.after(2, Due.row(0xFFFFFFF8L, HALF, HALF, HALF + 4, MIN, -1, 0), below(2, MIN + 5), belowSigned(2, 0));
        // (4) makes all bits known; (1) has been before, so HIGH is still 7.
        Told.after(3, Due.row(ALL, 4, 4, 7, 4, 7, 0), multiple(2, 4));
    }

    private static void impossible() {
        Due.says("If LOW is more than HIGH then, or LEAST more than MOST, or (in 4) a bit was known otherwise, it"
            + " is IMPOSSIBLE.");
        // LOW 2^31 and HIGH 2^31 - 1: no other sign of it, neither in A nor in Y.
        Told.walked(false, Due.NOT_LESS, 2, -1, MIN, below(2, MIN));
        Told.walked(true, Due.NOT_LESS, 2, -1, MAX, below(2, MIN));
        Told.where(Due.NOT_LESS, 2, -1, MAX, 2, Told.exactly(MAX), below(2, MIN));
        // LEAST 0 and MOST -1, the like.
        Told.walked(false, Due.NOT_LESS_SIGNED, 2, -1, 0, belowSigned(2, 0));
        Told.walked(true, Due.NOT_LESS_SIGNED, 2, -1, -1, belowSigned(2, 0));
        Told.where(Due.NOT_LESS_SIGNED, 2, -1, -1, 2, Told.exactly(-1), belowSigned(2, 0));
        // From 2 to 3, though bit 1 is known to be 0; to 4 it is possible.
        int[] five = Due.number(Due.AND, 2, 5);
        Told.walked(false, Due.LESS, 2, -1, 4, five, atLeast(2, 2));
        Told.walked(true, Due.LESS, 2, -1, 5, five, atLeast(2, 2));
        // 4 alone, though bit 0 is known to be 1; to 5 it is possible.
        int[] odd = Due.number(Due.OR, 2, 1);
        Told.walked(false, Due.LESS, 2, -1, 5, odd, atLeast(2, 4));
        Told.walked(true, Due.LESS, 2, -1, 6, odd, atLeast(2, 4));
    }

    private static void lowestBits() {
        Due.says("of ADD, SUBTRACT and MULTIPLY, the lowest ones up to, and not including, the lowest one that is"
            + " unknown in a or b");
        // None is known, though bit 1 of a is.
        int[] second = Due.number(Due.OR, 2, 2);
        Told.after(2, Told.between(2, ALL, MIN, MAX), second, Due.number(Due.ADD, 2, 0));
        Told.after(2, Told.between(2, ALL, MIN, MAX), second, Due.number(Due.SUBTRACT, 2, 0));
        Told.after(2, Told.between(2, ALL, MIN, MAX), second, Due.number(Due.MULTIPLY, 2, 1));
        // One.
        int[] by1 = Due.number(Due.LEFT, 2, 1);
        Told.after(2, Due.row(1, 1, 1, ALL, MIN, MAX, 0), by1, Due.number(Due.ADD, 2, 3));
        Told.after(2, Due.row(1, 1, 1, ALL, MIN, MAX, 0), by1, Due.number(Due.SUBTRACT, 2, 3));
        Told.after(2, Due.row(1, 0, 0, ALL - 1, MIN, MAX, 0), by1, Due.number(Due.MULTIPLY, 2, 3));
        // Three, with what is carried over from bit to bit.
        int[] low7 = Due.number(Due.OR, 2, 7);
        Told.after(2, Due.row(7, 4, 4, ALL - 3, MIN, MAX, 0), low7, Due.number(Due.ADD, 2, 5));
        Told.after(2, Due.row(7, 6, 6, ALL - 1, MIN, MAX, 0), low7, Due.number(Due.SUBTRACT, 2, 9));
        Told.after(2, Due.row(7, 5, 5, ALL - 2, MIN, MAX, 0), low7, Due.number(Due.MULTIPLY, 2, 3));
        // 31, and all.
        int[] by31 = Due.number(Due.LEFT, 2, 31);
        Told.after(2, Due.row(MAX, MAX, MAX, ALL, MIN, MAX, 0), by31, Due.number(Due.ADD, 2, -1));
        Told.after(2, Due.row(MAX, 1, 1, HALF + 1, MIN, MAX, 0), by31, Due.number(Due.SUBTRACT, 2, -1));
        Told.after(2, Due.row(MAX, 0, 0, HALF, MIN, MAX, 0), by31, Due.number(Due.MULTIPLY, 2, -1));
        Told.after(3, Told.exactly(MIN), Due.number(Due.MOVE, 3, MAX), Due.number(Due.ADD, 3, 1));
        // The unknown ones are b's.
        int[] by4 = Due.number(Due.LEFT, 2, 4);
        int[] five = Due.number(Due.MOVE, 3, 5);
        Told.after(3, Due.row(15, 5, 5, ALL - 10, MIN, MAX, 0), by4, five, Due.register(Due.ADD, 3, 2));
        Told.after(3, Due.row(15, 5, 5, ALL - 10, MIN, MAX, 0), by4, five, Due.register(Due.SUBTRACT, 3, 2));
        Told.after(3, Due.row(15, 0, 0, ALL - 15, MIN, MAX, 0), by4, five, Due.register(Due.MULTIPLY, 3, 2));
    }

    private static void bitsInTheirPlace() {
        Due.says("of AND, OR, XOR, each that follows from the two in its place alone");
        // a has 0 0 0 1 1 1 ? ? ? from bit 0 on, b has 0 1 ? 0 1 ? 0 1 ?.
        int[][] pair = {Due.register(Due.MOVE, 3, 2), Due.number(Due.AND, 3, 0x1C0), Due.number(Due.OR, 3, 0x38),
            Due.register(Due.MOVE, 4, 2), Due.number(Due.AND, 4, 0x124), Due.number(Due.OR, 4, 0x92)};
        Told.after(3, Due.row(ALL - 0x1C0, 0x38, 0x38, 0x1F8, 0x38, 0x1F8, 0), pair);
        Told.after(4, Due.row(ALL - 0x124, 0x92, 0x92, 0x1B6, 0x92, 0x1B6, 0), pair);
        // AND is 0 0 0 0 1 ? 0 ? ?, OR is 0 1 ? 1 1 1 ? 1 ?, XOR is 0 1 ? 1 0 ? ? ? ?.
        Told.after(3, Due.row(ALL - 0x1A0, 0x10, 0x10, 0x1B0, 0x10, 0x1B0, 0),
            Told.joined(pair, Due.register(Due.AND, 3, 4)));
        Told.after(3, Due.row(ALL - 0x144, 0xBA, 0xBA, 0x1FE, 0xBA, 0x1FE, 0),
            Told.joined(pair, Due.register(Due.OR, 3, 4)));
        Told.after(3, Due.row(ALL - 0x1E4, 0x0A, 0x0A, 0x1EE, 0x0A, 0x1EE, 0),
            Told.joined(pair, Due.register(Due.XOR, 3, 4)));
        // That it is the same register is not seen in the bits.
        Told.after(2, Told.NOTHING, Due.register(Due.XOR, 2, 2));
    }

    private static void bitsShifted() {
        Due.says("of shifts, if b is exactly one number, those that were known, shifted, and all that come in");
        int[] odd = Due.number(Due.OR, 2, 1);
        for (int by : new int[] {0, 32, MIN}) {
            Told.after(2, Due.row(1, 1, 1, ALL, MIN, MAX, 0), odd, Due.number(Due.LEFT, 2, by));
            Told.after(2, Due.row(1, 1, 1, ALL, MIN, MAX, 0), odd, Due.number(Due.RIGHT, 2, by));
            Told.after(2, Due.row(1, 1, 1, ALL, MIN, MAX, 0), odd, Due.number(Due.RIGHT_SIGNED, 2, by));
        }
        Told.after(2, Due.row(0x1F, 0x10, 0x10, ALL - 15, MIN, MAX, 0), odd, Due.number(Due.LEFT, 2, 4));
        Told.after(2, Told.exactly(MIN), odd, Due.number(Due.LEFT, 2, 31));
        Told.after(2, Told.exactly(MIN), odd, Due.number(Due.LEFT, 2, -1));
        Told.after(2, Due.row(HALF + 1, 1, 1, MAX, 1, MAX, 0), Due.number(Due.OR, 2, 3), Due.number(Due.RIGHT, 2, 1));
        Told.after(2, Told.upTo(0xFFFFFFFEL, 0, 1), Due.number(Due.RIGHT, 2, 31));
        Told.after(2, Told.exactly(1), Due.number(Due.OR, 2, MIN), Due.number(Due.RIGHT, 2, 31));
        // A bit that is known as 0.
        int[] withoutFour = Due.number(Due.AND, 2, -5);
        Told.after(2, Due.row(9, 0, 0, ALL - 9, MIN, MAX, 0), withoutFour, Due.number(Due.LEFT, 2, 1));
        Told.after(2, Told.upTo(HALF + 2, 0, MAX - 2), withoutFour, Due.number(Due.RIGHT, 2, 1));
        Told.after(2, Due.row(2, 0, 0, ALL - 2, MIN >> 1, MAX >> 1, 0), withoutFour,
            Due.number(Due.RIGHT_SIGNED, 2, 1));
        // By a register that is known exactly as well.
        Told.after(2, Told.exactly(MIN), odd, Due.number(Due.MOVE, 3, 31), Due.register(Due.LEFT, 2, 3));
    }

    private static void bitsOfSignedShifts() {
        Due.says("(of RIGHT SIGNED, if the highest bit is known; otherwise none that comes in)");
        int[] by4 = Due.number(Due.RIGHT_SIGNED, 2, 4);
        int[] by31 = Due.number(Due.RIGHT_SIGNED, 2, 31);
        Told.after(2, Due.row(0xF8000000L, 0xF8000000L, 0xF8000000L, ALL, -134217728, -1, 0),
            Due.number(Due.OR, 2, MIN), by4);
        Told.after(2, Told.upTo(0xF8000000L, 0, 134217727), Due.number(Due.AND, 2, MAX), by4);
        Told.after(2, Due.row(1, 1, 1, ALL, -134217728, 134217727, 0), Due.number(Due.OR, 2, 16), by4);
        Told.after(2, Told.exactly(-1), Due.number(Due.OR, 2, MIN), by31);
        Told.after(2, Told.exactly(0), Due.number(Due.AND, 2, MAX), by31);
        Told.after(2, Told.between(0, ALL, -1, 0), by31);
    }

    private static void noBits() {
        Due.says("of a shift by anything else, of DIVIDE and REST, none.");
        int[] bit = Due.number(Due.AND, 2, 1);
        for (int op = Due.LEFT; op <= Due.RIGHT_SIGNED; op++) {
            Told.after(3, Told.NOTHING, Due.number(Due.MOVE, 3, 0), Due.register(op, 3, 1));
            Told.after(3, Told.NOTHING, Due.number(Due.MOVE, 3, -1), bit, Due.register(op, 3, 2));
        }
        // Bits 0 .. 3 of a are known, those of the outcome are not, though it is a itself.
        int[] multiple = Due.number(Due.AND, 2, 0xF0);
        Told.after(2, Told.upTo(0xFFFFFF00L, 0, 0xF0), multiple, Due.number(Due.DIVIDE, 2, 1));
        Told.after(2, Told.upTo(0xFFFFFF00L, 0, 0xF0), multiple, Due.number(Due.REST, 2, 256));
    }

    private static void widestBounds() {
        Due.says("The bounds: the widest, but:");
        // Only the bits of 0 .. 16 are left where the operation has no bounds of its own.
        String left = Told.upTo(0xFFFFFFE0L, 0, 31);
        Told.after(1, left, Due.number(Due.XOR, 1, 0));
        Told.after(1, left, Due.number(Due.LEFT, 1, 0));
        Told.after(1, left, Due.number(Due.OR, 1, 0));
        // 20 .. 36, of which AND has no LOW.
        Told.after(1, Told.upTo(0xFFFFFFC0L, 0, 36), Due.number(Due.ADD, 1, 20), Due.number(Due.AND, 1, -1));
        // -8 .. 8, of which MULTIPLY and RIGHT have no LEAST and MOST.
        int[] signed = Due.number(Due.SUBTRACT, 1, 8);
        Told.after(1, Told.NOTHING, signed, Due.number(Due.MULTIPLY, 1, 1));
        Told.after(1, Told.NOTHING, signed, Due.number(Due.RIGHT, 1, 0));
        // 0 .. 2^31, of which RIGHT SIGNED has no LOW and HIGH.
        Told.after(2, Told.NOTHING, below(2, MIN + 1), Due.number(Due.RIGHT_SIGNED, 2, 0));
    }

    private static void sums() {
        Due.says("ADD: LOW and HIGH are the sums, if that of the HIGHs is less than 2^32; LEAST and MOST are the"
            + " sums, if both are ints.");
        // 0 .. 2^31 and 2^31 - 1, then and 2^31; nothing signed is known of it.
        Told.after(2, Told.between(MAX, ALL, MIN, MAX), below(2, MIN + 1), Due.number(Due.ADD, 2, MAX));
        Told.after(2, Told.NOTHING, below(2, MIN + 1), Due.number(Due.ADD, 2, MIN));
        // -8 .. 8, up to MAX and one further, down to MIN and one further; nothing unsigned is known of it.
        int[] signed = Due.number(Due.SUBTRACT, 1, 8);
        Told.after(1, Due.row(0xFFFFFFE0L, 0x7FFFFFE0L, MAX - 16, MAX, MAX - 16, MAX, 0), signed,
            Due.number(Due.ADD, 1, MAX - 8));
        Told.after(1, Told.NOTHING, signed, Due.number(Due.ADD, 1, MAX - 7));
        Told.after(1, Due.row(0xFFFFFFE0L, HALF, HALF, HALF + 16, MIN, MIN + 16, 0), signed,
            Due.number(Due.ADD, 1, MIN + 8));
        Told.after(1, Told.NOTHING, signed, Due.number(Due.ADD, 1, MIN + 7));
        // Both with a range.
        Told.after(1, Told.upTo(0xFFFFFFC0L, 3, 35), Due.register(Due.MOVE, 3, 1), Due.number(Due.ADD, 3, 3),
            Due.register(Due.ADD, 1, 3));
        Told.after(1, Told.between(0, ALL, -16, 16), signed, Due.register(Due.ADD, 1, 1));
        // b from 1 to 2^31 - 1, then to 2^31.
        int[] three = Due.register(Due.MOVE, 3, 2);
        Told.after(2, Told.between(1, ALL, MIN, MAX), below(2, MIN + 1), three, atLeast(3, 1), below(3, MIN),
            Due.register(Due.ADD, 2, 3));
        Told.after(2, Told.NOTHING, below(2, MIN + 1), three, atLeast(3, 1), Due.register(Due.ADD, 2, 3));
        // b from MIN + 8, then from MIN + 7 on; to MAX - 8, then to MAX - 7.
        int[] length = Due.register(Due.MOVE, 3, 1);
        Told.after(1, Due.row(0xFFFFFFC0L, HALF, HALF, HALF + 32, MIN, MIN + 32, 0), length, signed,
            Due.number(Due.ADD, 3, MIN + 8), Due.register(Due.ADD, 1, 3));
        Told.after(1, Told.NOTHING, length, signed, Due.number(Due.ADD, 3, MIN + 7), Due.register(Due.ADD, 1, 3));
        Told.after(1, Due.row(0xFFFFFFC0L, 0x7FFFFFC0L, MAX - 32, MAX, MAX - 32, MAX, 0), length, signed,
            Due.number(Due.ADD, 3, MAX - 24), Due.register(Due.ADD, 1, 3));
        Told.after(1, Told.NOTHING, length, signed, Due.number(Due.ADD, 3, MAX - 23), Due.register(Due.ADD, 1, 3));
    }

    private static void differences() {
        Due.says("SUBTRACT: LOW is a's LOW less b's HIGH, HIGH is a's HIGH less b's LOW, if the former is not"
            + " below 0; LEAST is a's LEAST less b's MOST, MOST a's MOST less b's LEAST, if both are ints.");
        // From 17 on less 1 .. 17, then from 16 on; nothing signed is known of it.
        int[] more = Due.number(Due.ADD, 1, 1);
        Told.after(2, Told.between(0, ALL - 1, MIN, MAX), more, atLeast(2, 17), Due.register(Due.SUBTRACT, 2, 1));
        Told.after(2, Told.NOTHING, more, atLeast(2, 16), Due.register(Due.SUBTRACT, 2, 1));
        Told.after(2, Told.between(1, ALL - 1, MIN, MAX), more, atLeast(2, 18), Due.register(Due.SUBTRACT, 2, 1));
        // -8 .. 8, up to MAX and one further, down to MIN and one further; nothing unsigned is known of it.
        int[] signed = Due.number(Due.SUBTRACT, 1, 8);
        Told.after(1, Due.row(0xFFFFFFE0L, 0x7FFFFFE0L, MAX - 16, MAX, MAX - 16, MAX, 0), signed,
            Due.number(Due.SUBTRACT, 1, 8 - MAX));
        Told.after(1, Told.NOTHING, signed, Due.number(Due.SUBTRACT, 1, 7 - MAX));
        Told.after(1, Due.row(0xFFFFFFE0L, HALF, HALF, HALF + 16, MIN, MIN + 16, 0), signed,
            Due.number(Due.SUBTRACT, 1, MAX - 7));
        Told.after(1, Told.NOTHING, signed, Due.number(Due.SUBTRACT, 1, MAX - 6));
        // b with a range.
        Told.after(3, Told.between(0, ALL, -11, 5), Due.number(Due.MOVE, 3, 5), Due.register(Due.SUBTRACT, 3, 1));
        // -8 .. 8 less what is at most MAX - 7, then MAX - 6; at least 8 - MAX, then 7 - MAX.
        int[] length = Due.register(Due.MOVE, 3, 1);
        Told.after(1, Due.row(0xFFFFFFC0L, HALF, HALF, HALF + 32, MIN, MIN + 32, 0), length, signed,
            Due.number(Due.ADD, 3, MAX - 23), Due.register(Due.SUBTRACT, 1, 3));
        Told.after(1, Told.NOTHING, length, signed, Due.number(Due.ADD, 3, MAX - 22), Due.register(Due.SUBTRACT, 1, 3));
        Told.after(1, Due.row(0xFFFFFFC0L, 0x7FFFFFC0L, MAX - 32, MAX, MAX - 32, MAX, 0), length, signed,
            Due.number(Due.ADD, 3, 8 - MAX), Due.register(Due.SUBTRACT, 1, 3));
        Told.after(1, Told.NOTHING, length, signed, Due.number(Due.ADD, 3, 7 - MAX), Due.register(Due.SUBTRACT, 1, 3));
        Told.after(3, Due.row(0xFFFFFFE0L, 0, 4, 20, 4, 20, 0), Due.number(Due.MOVE, 3, 20),
            Due.register(Due.SUBTRACT, 3, 1));
    }

    private static void products() {
        Due.says("MULTIPLY: LOW and HIGH are the products, if that of the HIGHs is less than 2^32.");
        // 1 .. 65535 and 65537: 2^32 - 1. 1 .. 65536 and 65536: 2^32.
        Told.after(2, Told.between(65537, ALL, MIN, MAX), atLeast(2, 1), below(2, 65536),
            Due.number(Due.MULTIPLY, 2, 65537));
        Told.after(2, Told.NOTHING, atLeast(2, 1), below(2, 65537), Due.number(Due.MULTIPLY, 2, 65536));
        Told.after(1, Told.between(0, 4294967280L, MIN, MAX), Due.number(Due.MULTIPLY, 1, 268435455));
        Told.after(1, Told.NOTHING, Due.number(Due.MULTIPLY, 1, 268435456));
        // The greatest: near 2^64.
        Told.after(2, Told.NOTHING, Due.number(Due.MULTIPLY, 2, -1));
        Told.after(2, Told.NOTHING, atLeast(2, 1), Due.register(Due.MULTIPLY, 2, 2));
        // Both with a range: 2 .. 18 and 3 .. 19.
        Told.after(1, Told.upTo(0xFFFFFE00L, 6, 342), Due.register(Due.MOVE, 3, 1), Due.number(Due.ADD, 1, 2),
            Due.number(Due.ADD, 3, 3), Due.register(Due.MULTIPLY, 1, 3));
    }

    private static void lesserHigh() {
        Due.says("AND: HIGH is the lesser HIGH.");
        int[][] pair = {Due.register(Due.MOVE, 3, 1), Due.number(Due.ADD, 3, 4)};
        Told.after(1, Told.LENGTH, Told.joined(pair, Due.register(Due.AND, 1, 3)));
        Told.after(3, Told.LENGTH, Told.joined(pair, Due.register(Due.AND, 3, 1)));
        Told.after(2, Told.LENGTH, Due.register(Due.AND, 2, 1));
        Told.after(1, Told.LENGTH, Due.register(Due.AND, 1, 2));
    }

    private static void greaterLow() {
        Due.says("OR: LOW is the greater LOW.");
        int[][] pair = {Due.register(Due.MOVE, 3, 1), Due.number(Due.ADD, 3, 3), Due.number(Due.ADD, 1, 5)};
        Told.after(1, Told.upTo(0xFFFFFFE0L, 5, 31), Told.joined(pair, Due.register(Due.OR, 1, 3)));
        Told.after(3, Told.upTo(0xFFFFFFE0L, 5, 31), Told.joined(pair, Due.register(Due.OR, 3, 1)));
        Told.after(2, Told.between(5, ALL, MIN, MAX), Told.joined(pair, Due.register(Due.OR, 2, 1)));
        Told.after(1, Told.between(5, ALL, MIN, MAX), Told.joined(pair, Due.register(Due.OR, 1, 2)));
    }

    private static void boundsShifted() {
        Due.says("RIGHT by exactly one number: LOW and HIGH shifted so.");
        int[] more = Due.number(Due.ADD, 1, 3);
        Told.after(1, Told.upTo(0xFFFFFFE0L, 3, 19), more, Due.number(Due.RIGHT, 1, 0));
        Told.after(1, Told.upTo(0xFFFFFFF0L, 1, 9), more, Due.number(Due.RIGHT, 1, 1));
        Told.after(1, Told.upTo(0xFFFFFFF0L, 1, 9), more, Due.number(Due.RIGHT, 1, 33));
        Told.after(1, Told.exactly(0), more, Due.number(Due.RIGHT, 1, 31));
        Told.after(2, Told.exactly(1), atLeast(2, MIN), Due.number(Due.RIGHT, 2, 31));
        Told.after(2, Told.upTo(0xFFFFFFFEL, 0, 1), atLeast(2, MAX), Due.number(Due.RIGHT, 2, 31));
        Told.after(1, Told.NOTHING, more, Due.register(Due.RIGHT, 1, 1));
    }

    private static void signedBoundsShifted() {
        Due.says("RIGHT SIGNED by exactly one: LEAST and MOST.");
        int[] signed = Due.number(Due.SUBTRACT, 1, 7);
        Told.after(1, Told.between(0, ALL, -7, 9), signed, Due.number(Due.RIGHT_SIGNED, 1, 0));
        Told.after(1, Told.between(0, ALL, -4, 4), signed, Due.number(Due.RIGHT_SIGNED, 1, 1));
        Told.after(1, Told.between(0, ALL, -4, 4), signed, Due.number(Due.RIGHT_SIGNED, 1, 33));
        Told.after(1, Told.between(0, ALL, -1, 0), signed, Due.number(Due.RIGHT_SIGNED, 1, 31));
        Told.after(2, Told.exactly(-1), belowSigned(2, 0), Due.number(Due.RIGHT_SIGNED, 2, 31));
        // -100 .. -84.
        Told.after(1, Due.row(0xFFFFFFE0L, 0xFFFFFFC0L, ALL - 49, ALL - 41, -50, -42, 0),
            Due.number(Due.SUBTRACT, 1, 100),
            Due.number(Due.RIGHT_SIGNED, 1, 1));
        Told.after(1, Told.NOTHING, signed, Due.register(Due.RIGHT_SIGNED, 1, 1));
    }

    private static void quotients() {
        Due.says("DIVIDE, if b's LOW is not 0: LOW is a's LOW by b's HIGH, HIGH is a's HIGH by b's LOW.");
        // 20 .. 36 by 3 .. 19, then by 1 .. 17.
        int[][] pair = {Due.register(Due.MOVE, 3, 1), Due.number(Due.ADD, 3, 20)};
        Told.after(3, Told.upTo(0xFFFFFFF0L, 1, 12),
            Told.joined(pair, Due.number(Due.ADD, 1, 3), Due.register(Due.DIVIDE, 3, 1)));
        Told.after(3, Told.upTo(0xFFFFFFC0L, 1, 36),
            Told.joined(pair, Due.number(Due.ADD, 1, 1), Due.register(Due.DIVIDE, 3, 1)));
        Due.walks("by 0 .. 16", 403, 4, Told.startedAndEnded(Told.joined(pair, Due.register(Due.DIVIDE, 3, 1))));
        // Unsigned, rounded down.
        Told.after(2, Told.upTo(HALF, 0, MAX), Due.number(Due.DIVIDE, 2, 2));
        Told.after(2, Told.upTo(0xFFFFFFFEL, 0, 1), Due.number(Due.DIVIDE, 2, MIN));
        Told.after(2, Told.exactly(1), atLeast(2, MIN), Due.number(Due.DIVIDE, 2, MIN));
        Told.after(2, Told.NOTHING, Due.number(Due.DIVIDE, 2, 1));
    }

    private static void rests() {
        Due.says("REST, if b's LOW is not 0: LOW is 0, HIGH the lesser of a's HIGH and b's HIGH less 1.");
        Told.after(1, Told.upTo(0xFFFFFFF0L, 0, 15), Due.number(Due.REST, 1, 16));
        Told.after(1, Told.upTo(0xFFFFFFE0L, 0, 16), Due.number(Due.REST, 1, 17));
        Told.after(1, Told.upTo(0xFFFFFFE0L, 0, 16), Due.number(Due.REST, 1, 18));
        Told.after(1, Told.upTo(0xFFFFFFE0L, 0, 19), Due.number(Due.ADD, 1, 3), Due.number(Due.REST, 1, 99));
        Told.after(2, Told.exactly(0), Due.number(Due.REST, 2, 1));
        Told.after(2, Told.between(0, ALL - 1, MIN, MAX), Due.number(Due.REST, 2, -1));
        Told.after(2, Told.upTo(0xFFFFFFE0L, 0, 16), Due.number(Due.ADD, 1, 1), Due.register(Due.REST, 2, 1));
        Due.walks("by 0 .. 16", 401, 2, Told.startedAndEnded(Due.register(Due.REST, 0, 1)));
    }

    private static void roundedDown() {
        Due.says("(In all these divisions and shifts unsigned, rounded down, but for RIGHT SIGNED.)");
        // 2^31 + 5 .. 2^32 - 7, in which the highest bit is no sign.
        int[][] before = {atLeast(2, MIN + 5), below(2, -6)};
        Told.after(2, Due.row(0xF8000000L, 0x08000000L, 0x08000000L, 0x0FFFFFFFL, 0x08000000L, 0x0FFFFFFFL, 0),
            Told.joined(before, Due.number(Due.DIVIDE, 2, 16)));
        Told.after(2, Due.row(0xF8000000L, 0x08000000L, 0x08000000L, 0x0FFFFFFFL, 0x08000000L, 0x0FFFFFFFL, 0),
            Told.joined(before, Due.number(Due.RIGHT, 2, 4)));
        Told.after(2, Told.exactly(1), Told.joined(before, Due.number(Due.DIVIDE, 2, MIN)));
        // Signed it is MIN + 5 .. -7, rounded down as well.
        Told.after(2, Due.row(0xF8000000L, 0xF8000000L, 0xF8000000L, ALL, -134217728, -1, 0),
            Told.joined(before, Due.number(Due.RIGHT_SIGNED, 2, 4)));
        // 7 .. 23 by 4, and shifted by 2: 1 .. 5.
        int[] more = Due.number(Due.ADD, 1, 7);
        Told.after(1, Told.upTo(0xFFFFFFF8L, 1, 5), more, Due.number(Due.DIVIDE, 1, 4));
        Told.after(1, Told.upTo(0xFFFFFFF8L, 1, 5), more, Due.number(Due.RIGHT, 1, 2));
    }

    private static void impossibleAfterAnOperation() {
        Due.says("Then it is tightened; if it is impossible, the way is not walked on (there is no alarm).");
        // All bits are those of 4, though it is at least 5: only another tightening finds that.
        int[][] none = multiple(2, 5);
        int[] past = Due.whole(Due.GO, 0, -1, 0, 20);
        int[][] neutral = {Due.number(Due.ADD, 3, 0), Due.number(Due.SUBTRACT, 3, 0), Due.number(Due.MULTIPLY, 3, 1),
            Due.number(Due.OR, 3, 0)};
        for (int[] operation : neutral) {
            // 0 .. 5 are walked, and then the way that went by 23 from 4; what stands behind 5 is not.
            Due.walks("op " + operation[0], 128, 7, Told.startedAndEnded(Told.joined(none, operation, past)));
        }
        Due.walks("MOVE is not tightened", 127, 8,
            Told.startedAndEnded(Told.joined(none, Due.number(Due.MOVE, 4, 0), past)));
    }

    /** SAFE of register r after the instructions. */
    private static void safe(int r, int want, int[]... program) {
        ProgramGate x = Due.gate(Told.startedAndEnded(program));
        x.walk();
        Due.due("SAFE of " + r + " after " + Arrays.deepToString(program), x.known(r, 6), want);
    }

    private static void safeAfterAdd() {
        Due.says("of ADD, if b is exactly n from 0 to 20 and a's HIGH and n are less than 2^32 together, a's SAFE"
            + " less n, or 0 if that is less.");
        int[] guard = within(1, 16);
        for (int n = 0; n <= 21; n++) {
            safe(1, Math.max(16 - n, 0), guard, Due.number(Due.ADD, 1, n));
            safe(1, Math.max(16 - n, 0), guard, Due.number(Due.MOVE, 3, n), Due.register(Due.ADD, 1, 3));
        }
        safe(1, 0, guard, Due.number(Due.ADD, 1, -1));
        safe(1, 0, guard, Due.number(Due.ADD, 1, MIN));
        // b is 0 .. 1, then all its bits are known, but it is not exact.
        safe(1, 0, guard, Due.number(Due.AND, 2, 1), Due.register(Due.ADD, 1, 2));
        safe(1, 0, Told.joined(multiple(1, 2), guard, Due.register(Due.ADD, 1, 3)));
        // HIGH is 2^32 - 1 and then one less.
        safe(2, 16, within(2, 16), Due.number(Due.ADD, 2, 0));
        safe(2, 0, within(2, 16), Due.number(Due.ADD, 2, 1));
        safe(2, 15, within(2, 16), below(2, -1), Due.number(Due.ADD, 2, 1));
        safe(2, 0, within(2, 16), below(2, -1), Due.number(Due.ADD, 2, 2));
        // It is b that is to be 0 .. 20, not a.
        safe(2, 15, within(2, 16), atLeast(2, 25), below(2, 99), Due.number(Due.ADD, 2, 1));
        // It is a's SAFE, not b's.
        safe(3, 0, guard, Due.number(Due.MOVE, 3, 2), Due.register(Due.ADD, 3, 1));
    }

    private static void safeAfterAnythingElse() {
        Due.says("SAFE is 0, but:");
        // Operations that leave the number as it is.
        int[] neutral = {0, 1, -1, 0, 0, 0, 0, 0, 1, 99};
        for (int op = Due.SUBTRACT; op <= Due.REST; op++) {
            safe(1, 0, within(1, 16), Due.number(op, 1, neutral[op - Due.SUBTRACT]));
        }
    }

    private static void moved() {
        Due.says("MOVE takes all that is known of Y.");
        Told.after(3, Due.row(0xFFFFFFE0L, 0, 0, 16, 0, 16, 9), within(1, 9), Due.register(Due.MOVE, 3, 1));
        Told.after(1, Due.row(0xFFFFFFE0L, 0, 0, 16, 0, 16, 9), within(1, 9), Due.register(Due.MOVE, 1, 1));
        Told.after(4, Due.row(ALL, 4, 4, 7, 4, 7, 0), Told.joined(multiple(2, 4), Due.register(Due.MOVE, 4, 3)));
        Told.after(3, Told.NOTHING, within(1, 9), Due.register(Due.MOVE, 3, 1), Due.register(Due.MOVE, 3, 2));
    }

    /** The meet of registers 3 and 4, in both orders. */
    private static void meet(String want, int[]... before) {
        int[] place = Due.number(Due.AND, 2, 1);
        for (int ofThree = 0; ofThree <= 1; ofThree++) {
            Told.after(0, want, Told.joined(before, place, Due.number(Due.PUT, 3, ofThree),
                Due.number(Due.PUT, 4, 1 - ofThree),
                Due.register(Due.GET, 0, 2)));
        }
    }

    private static void theMeet() {
        Due.says("the bits known alike in both; the lesser LOW and LEAST, the greater HIGH and MOST, the lesser"
            + " SAFE.");
        meet(Due.row(0xFFFFFFFDL, 5, 5, 7, 5, 7, 0), Due.number(Due.MOVE, 3, 5), Due.number(Due.MOVE, 4, 7));
        // 5 and 8 have all but bits 0, 2 and 3 alike.
        meet(Due.row(0xFFFFFFF2L, 0, 5, 8, 5, 8, 0), Due.number(Due.MOVE, 3, 5), Due.number(Due.MOVE, 4, 8));
        meet(Due.row(1, 1, 1, ALL, -1, 1, 0), Due.number(Due.MOVE, 3, 1), Due.number(Due.MOVE, 4, -1));
        meet(Told.between(0, ALL, -1, 0), Due.number(Due.MOVE, 3, 0), Due.number(Due.MOVE, 4, -1));
        meet(Told.exactly(6), Due.number(Due.MOVE, 3, 6), Due.number(Due.MOVE, 4, 6));
        // It is not tightened: of 4 .. 7 with all bits of 4, and of 4, the greater HIGH is 7.
        meet(Due.row(ALL, 4, 4, 7, 4, 7, 0), Told.joined(multiple(2, 4), Due.number(Due.MOVE, 4, 4)));
        // Bit 0 is known in both, bit 1 in one of them alone.
        meet(Due.row(1, 1, 1, ALL, MIN, MAX, 0), Due.register(Due.MOVE, 3, 2), Due.number(Due.OR, 3, 1),
            Due.number(Due.MOVE, 4, 3));
        // 3 .. 19 with SAFE 7 and 0 .. 16 with SAFE 10.
        meet(Due.row(0xFFFFFFE0L, 0, 0, 19, 0, 19, 7), within(1, 10), Due.register(Due.MOVE, 3, 1),
            Due.register(Due.MOVE, 4, 1),
            Due.number(Due.ADD, 3, 3));
        meet(Told.LENGTH, within(1, 10), Due.register(Due.MOVE, 3, 1), Due.register(Due.MOVE, 4, 1),
            Due.number(Due.MOVE, 4, 0));
    }
}
