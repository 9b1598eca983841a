import java.math.BigInteger;
import java.util.ArrayList;
import java.util.List;

/**
 * The document read a second time, in another way than ProgramGate does it: bits as characters, ways by
 * recursion, every state a copy. It is slow and makes many objects; tests compare the two.
 */
final class PlainReading {
    /** What is known of a number; bits.charAt(i) is bit i: 0, 1 or ?. */
    record Num(String bits, long low, long high, long least, long most, int safe) {
        boolean exact() {
            return low == high;
        }

        Num withSafe(int newSafe) {
            return new Num(bits, low, high, least, most, newSafe);
        }

        Num withUnsigned(long newLow, long newHigh) {
            return new Num(bits, newLow, newHigh, least, most, safe);
        }

        Num withSigned(long newLeast, long newMost) {
            return new Num(bits, low, high, newLeast, newMost, safe);
        }
    }

    private static final long TOP = 1L << 32;
    private static final String NO_BITS = "?".repeat(32);
    private static final Num NOTHING =
        new Num(NO_BITS, 0, TOP - 1, Integer.MIN_VALUE, Integer.MAX_VALUE, 0);

    private final List<int[]> program = new ArrayList<>();
    private int[] packet = new int[0];
    int steps;
    int ran;
    private Num[] atEnd;

    int add(int[] instruction) {
        program.add(instruction.clone());
        return program.size();
    }

    int clear() {
        int had = program.size();
        program.clear();
        return had;
    }

    int size() {
        return program.size();
    }

    void packet(long low, long high, int n) {
        packet = new int[n];
        BigInteger all = new BigInteger(Long.toUnsignedString(high)).shiftLeft(64)
            .or(new BigInteger(Long.toUnsignedString(low)));
        for (int i = 0; i < n; i++) {
            packet[i] = all.shiftRight(8 * i).and(BigInteger.valueOf(255)).intValue();
        }
    }

    long known(int r, int what) {
        if (r < 0 || r > 5 || what < 0 || what > 6 || atEnd == null || atEnd[r] == null) {
            return Due.UNTOLD;
        }
        Num x = atEnd[r];
        switch (what) {
            case 0: return fromBits(x.bits.replace('0', '1').replace('?', '0'));
            case 1: return fromBits(x.bits.replace('?', '0'));
            case 2: return x.low;
            case 3: return x.high;
            case 4: return x.least;
            case 5: return x.most;
            default: return x.safe;
        }
    }

    // ---- bits

    private static long fromBits(String bits) {
        return Long.parseLong(new StringBuilder(bits).reverse().toString(), 2);
    }

    private static String toBits(long unsigned) {
        StringBuilder s = new StringBuilder();
        for (int i = 0; i < 32; i++) {
            s.append((unsigned >> i & 1) == 1 ? '1' : '0');
        }
        return s.toString();
    }

    private static long unsigned(long x) {
        return Math.floorMod(x, TOP);
    }

    private static Num number(int n) {
        return new Num(toBits(unsigned(n)), unsigned(n), unsigned(n), n, n, 0);
    }

    /** Null if it is impossible. */
    private static Num tighten(Num x) {
        if (x == null) {
            return null;
        }
        long low = Math.max(x.low, fromBits(x.bits.replace('?', '0')));
        long high = Math.min(x.high, fromBits(x.bits.replace('?', '1')));
        long least = x.least;
        long most = x.most;
        boolean lowHalf = low < TOP / 2 && high < TOP / 2;
        boolean highHalf = low >= TOP / 2 && high >= TOP / 2;
        if (lowHalf) {
            least = Math.max(least, low);
            most = Math.min(most, high);
        } else if (highHalf) {
            least = Math.max(least, low - TOP);
            most = Math.min(most, high - TOP);
        }
        if (least < 0 && most < 0) {
            low = Math.max(low, least + TOP);
            high = Math.min(high, most + TOP);
        } else if (least >= 0 && most >= 0) {
            low = Math.max(low, least);
            high = Math.min(high, most);
        }
        if (low > high || least > most) {
            return null;
        }
        char[] bits = x.bits.toCharArray();
        String ofLow = toBits(low);
        String ofHigh = toBits(high);
        for (int i = 31; i >= 0 && ofLow.charAt(i) == ofHigh.charAt(i); i--) {
            if (bits[i] != '?' && bits[i] != ofLow.charAt(i)) {
                return null;
            }
            bits[i] = ofLow.charAt(i);
        }
        return new Num(new String(bits), low, high, least, most, x.safe);
    }

    private static Num meet(Num x, Num y) {
        StringBuilder bits = new StringBuilder();
        for (int i = 0; i < 32; i++) {
            bits.append(x.bits.charAt(i) == y.bits.charAt(i) ? x.bits.charAt(i) : '?');
        }
        return new Num(bits.toString(), Math.min(x.low, y.low), Math.max(x.high, y.high),
            Math.min(x.least, y.least), Math.max(x.most, y.most), Math.min(x.safe, y.safe));
    }

    // ---- operations

    private static String bitsAfter(int op, Num a, Num b) {
        StringBuilder bits = new StringBuilder();
        if (op <= Due.MULTIPLY) {
            int k = 0;
            while (k < 32 && a.bits.charAt(k) != '?' && b.bits.charAt(k) != '?') {
                k++;
            }
            BigInteger x = BigInteger.valueOf(fromBits(a.bits.replace('?', '0')));
            BigInteger y = BigInteger.valueOf(fromBits(b.bits.replace('?', '0')));
            BigInteger z = op == Due.ADD ? x.add(y) : op == Due.SUBTRACT ? x.subtract(y) : x.multiply(y);
            return toBits(z.mod(BigInteger.valueOf(TOP)).longValue()).substring(0, k) + "?".repeat(32 - k);
        }
        if (op <= Due.XOR) {
            for (int i = 0; i < 32; i++) {
                bits.append(bitAfter(op, a.bits.charAt(i), b.bits.charAt(i)));
            }
            return bits.toString();
        }
        if (op >= Due.DIVIDE || !b.exact()) {
            return NO_BITS;
        }
        int by = (int) (b.low % 32);
        if (op == Due.LEFT) {
            return "0".repeat(by) + a.bits.substring(0, 32 - by);
        }
        String comesIn = op == Due.RIGHT ? "0" : a.bits.substring(31);
        return a.bits.substring(by) + comesIn.repeat(by);
    }

    private static char bitAfter(int op, char p, char q) {
        // Every pair of bits that the two may be is tried; the bit follows if all agree.
        boolean mayBe0 = false;
        boolean mayBe1 = false;
        for (int x = 0; x <= 1; x++) {
            for (int y = 0; y <= 1; y++) {
                if ((p == '?' || p == '0' + x) && (q == '?' || q == '0' + y)) {
                    int z = op == Due.AND ? x & y : op == Due.OR ? x | y : x ^ y;
                    mayBe0 |= z == 0;
                    mayBe1 |= z == 1;
                }
            }
        }
        return mayBe0 && mayBe1 ? '?' : mayBe0 ? '0' : '1';
    }

    private static boolean isInt(long x) {
        return x == (int) x;
    }

    private static Num operate(int op, Num a, Num b) {
        Num r = new Num(bitsAfter(op, a, b), NOTHING.low, NOTHING.high, NOTHING.least, NOTHING.most, 0);
        boolean one = b.exact();
        int by = (int) (b.low % 32);
        switch (op) {
            case Due.ADD:
                if (a.high + b.high < TOP) {
                    r = r.withUnsigned(a.low + b.low, a.high + b.high);
                }
                if (isInt(a.least + b.least) && isInt(a.most + b.most)) {
                    r = r.withSigned(a.least + b.least, a.most + b.most);
                }
                if (one && b.low <= 20 && a.high + b.low < TOP) {
                    r = r.withSafe((int) Math.max(0, a.safe - b.low));
                }
                break;
            case Due.SUBTRACT:
                if (a.low >= b.high) {
                    r = r.withUnsigned(a.low - b.high, a.high - b.low);
                }
                if (isInt(a.least - b.most) && isInt(a.most - b.least)) {
                    r = r.withSigned(a.least - b.most, a.most - b.least);
                }
                break;
            case Due.MULTIPLY:
                BigInteger highest = BigInteger.valueOf(a.high).multiply(BigInteger.valueOf(b.high));
                if (highest.compareTo(BigInteger.valueOf(TOP)) < 0) {
                    r = r.withUnsigned(a.low * b.low, highest.longValue());
                }
                break;
            case Due.AND:
                r = r.withUnsigned(0, Math.min(a.high, b.high));
                break;
            case Due.OR:
                r = r.withUnsigned(Math.max(a.low, b.low), TOP - 1);
                break;
            case Due.RIGHT:
                r = one ? r.withUnsigned(a.low / (1L << by), a.high / (1L << by)) : r;
                break;
            case Due.RIGHT_SIGNED:
                r = one ? r.withSigned(Math.floorDiv(a.least, 1L << by), Math.floorDiv(a.most, 1L << by)) : r;
                break;
            case Due.DIVIDE:
                r = r.withUnsigned(a.low / b.high, a.high / b.low);
                break;
            case Due.REST:
                r = r.withUnsigned(0, Math.min(a.high, b.high - 1));
                break;
            default:
                break;
        }
        return tighten(r);
    }

    // ---- the walk; a state is the six registers and then the four places, null where unset

    int walk() {
        steps = 0;
        atEnd = null;
        Num[] state = new Num[10];
        state[1] = tighten(new Num(NO_BITS, 0, 16, 0, 16, 0));
        state[2] = NOTHING;
        return come(0, state);
    }

    private int come(int at, Num[] state) {
        steps++;
        if (at >= program.size()) {
            return 100 + at;
        }
        if (steps == 301) {
            return 200 + at;
        }
        int[] i = program.get(at);
        int op = i[0];
        boolean hasA = op != Due.BEYOND && op != Due.GO && op != Due.END;
        boolean readsA = hasA && op != Due.MOVE && op != Due.GET && op != Due.LOAD;
        boolean readsB = op != Due.GO && op != Due.END && i[2] != -1;
        if (readsA && state[i[1]] == null || readsB && state[i[2]] == null || op == Due.END && state[0] == null) {
            return 300 + at;
        }
        if (op == Due.END) {
            atEnd = state;
            return 0;
        }
        if (op == Due.GO) {
            return come(at + 1 + i[4], state);
        }
        Num a = hasA ? state[i[1]] : null;
        Num b = i[2] == -1 ? number(i[3]) : state[i[2]];
        if ((op == Due.DIVIDE || op == Due.REST) && b.low == 0) {
            return 400 + at;
        }
        if ((op == Due.GET || op == Due.PUT) && b.high > 3) {
            return 500 + at;
        }
        if (op == Due.GET) {
            for (long p = b.low; p <= b.high; p++) {
                if (state[6 + (int) p] == null) {
                    return 600 + at;
                }
            }
        }
        if (op == Due.LOAD && i[3] + i[4] > b.safe) {
            return 700 + at;
        }
        if (op >= Due.BEYOND) {
            int alarm = follow(at + 1, wayNotGoing(i, state, a, b));
            return alarm != 0 ? alarm : follow(at + 1 + i[4], wayGoing(i, state, a, b));
        }
        return follow(at + 1, changed(i, state, a, b));
    }

    private int follow(int at, Num[] stateOrNull) {
        return stateOrNull == null ? 0 : come(at, stateOrNull);
    }

    private static Num[] changed(int[] i, Num[] state, Num a, Num b) {
        Num[] s = state.clone();
        if (i[0] == Due.PUT) {
            for (int p = (int) b.low; p <= b.high; p++) {
                s[6 + p] = b.exact() ? a : s[6 + p] == null ? null : meet(s[6 + p], a);
            }
            return s;
        }
        Num r;
        if (i[0] == Due.MOVE) {
            r = b;
        } else if (i[0] == Due.GET) {
            r = s[6 + (int) b.low];
            for (int p = (int) b.low; p <= b.high; p++) {
                r = meet(r, s[6 + p]);
            }
        } else if (i[0] == Due.LOAD) {
            long top = i[4] == 1 ? 255 : 65535;
            r = i[4] == 4 ? NOTHING : tighten(new Num(NO_BITS, 0, top, 0, top, 0));
        } else {
            r = operate(i[0], a, b);
        }
        s[i[1]] = r;
        return r == null ? null : s;
    }

    private static Num[] wayNotGoing(int[] i, Num[] state, Num a, Num b) {
        switch (i[0]) {
            case Due.BEYOND: return withRegisters(state, i[2], b.withSafe(Math.max(b.safe, i[3])), -1, null);
            case Due.EQUAL: return unlike(state, a, b);
            case Due.UNLIKE: return equal(i, state, a, b);
            case Due.LESS: return notLess(i, state, a, b);
            case Due.NOT_LESS: return less(i, state, a, b);
            case Due.LESS_SIGNED: return notLessSigned(i, state, a, b);
            default: return lessSigned(i, state, a, b);
        }
    }

    private static Num[] wayGoing(int[] i, Num[] state, Num a, Num b) {
        switch (i[0]) {
            case Due.BEYOND: return state;
            case Due.EQUAL: return equal(i, state, a, b);
            case Due.UNLIKE: return unlike(state, a, b);
            case Due.LESS: return less(i, state, a, b);
            case Due.NOT_LESS: return notLess(i, state, a, b);
            case Due.LESS_SIGNED: return lessSigned(i, state, a, b);
            default: return notLessSigned(i, state, a, b);
        }
    }

    private static Num[] withRegisters(Num[] state, int a, Num ofA, int b, Num ofB) {
        Num[] s = state.clone();
        s[a] = ofA;
        if (b != -1) {
            s[b] = ofB;
        }
        return s;
    }

    private static Num[] both(int[] i, Num[] state, Num a, Num b) {
        Num ofA = tighten(a);
        Num ofB = tighten(b);
        return ofA == null || ofB == null ? null : withRegisters(state, i[1], ofA, i[2], ofB);
    }

    private static Num[] unlike(Num[] state, Num a, Num b) {
        return a.exact() && b.exact() && a.low == b.low ? null : state;
    }

    private static Num[] equal(int[] i, Num[] state, Num a, Num b) {
        StringBuilder bits = new StringBuilder();
        for (int k = 0; k < 32; k++) {
            char p = a.bits.charAt(k);
            char q = b.bits.charAt(k);
            if (p != '?' && q != '?' && p != q) {
                return null;
            }
            bits.append(p == '?' ? q : p);
        }
        Num one = new Num(bits.toString(), Math.max(a.low, b.low), Math.min(a.high, b.high),
            Math.max(a.least, b.least), Math.min(a.most, b.most), Math.max(a.safe, b.safe));
        return both(i, state, one, one);
    }

    private static Num[] less(int[] i, Num[] state, Num a, Num y) {
        return both(i, state, a.withUnsigned(a.low, Math.min(a.high, y.high - 1)),
            y.withUnsigned(Math.max(y.low, a.low + 1), y.high));
    }

    private static Num[] notLess(int[] i, Num[] state, Num a, Num y) {
        return both(i, state, a.withUnsigned(Math.max(a.low, y.low), a.high),
            y.withUnsigned(y.low, Math.min(y.high, a.high)));
    }

    private static Num[] lessSigned(int[] i, Num[] state, Num a, Num y) {
        return both(i, state, a.withSigned(a.least, Math.min(a.most, y.most - 1)),
            y.withSigned(Math.max(y.least, a.least + 1), y.most));
    }

    private static Num[] notLessSigned(int[] i, Num[] state, Num a, Num y) {
        return both(i, state, a.withSigned(Math.max(a.least, y.least), a.most),
            y.withSigned(y.least, Math.min(y.most, a.most)));
    }

    // ---- the machine

    /** In the form of Due.ran. */
    String run(int argument) {
        ran = 0;
        int[] regs = {0, packet.length, argument, 0, 0, 0};
        int[] stack = new int[4];
        int at = 0;
        while (at < program.size()) {
            int[] i = program.get(at);
            int op = i[0];
            ran++;
            int a = regs[i[1]];
            int y = i[2] == -1 ? i[3] : regs[i[2]];
            boolean goes = false;
            if (op == Due.END) {
                return Due.answer(regs[0]);
            } else if (op == Due.PUT || op == Due.GET) {
                if (unsigned(y) > 3) {
                    return Due.thrown(Due.THROWS_INDEX);
                }
                if (op == Due.PUT) {
                    stack[y] = a;
                } else {
                    regs[i[1]] = stack[y];
                }
            } else if (op == Due.LOAD) {
                long from = unsigned(y) + i[3];
                long loaded = 0;
                for (int k = i[4] - 1; k >= 0; k--) {
                    if (from + k >= packet.length) {
                        return Due.thrown(Due.THROWS_INDEX);
                    }
                    loaded = loaded * 256 + packet[(int) from + k];
                }
                regs[i[1]] = (int) loaded;
            } else if (op >= Due.BEYOND) {
                goes = goes(op, i, a, y);
            } else if ((op == Due.DIVIDE || op == Due.REST) && y == 0) {
                return Due.thrown(Due.THROWS_ARITHMETIC);
            } else {
                regs[i[1]] = compute(op, a, y);
            }
            at += goes ? 1 + i[4] : 1;
        }
        return Due.thrown(Due.THROWS_STATE);
    }

    private boolean goes(int op, int[] i, int a, int y) {
        switch (op) {
            case Due.BEYOND: return unsigned(y) + i[3] > packet.length;
            case Due.EQUAL: return a == y;
            case Due.UNLIKE: return a != y;
            case Due.LESS: return Integer.compareUnsigned(a, y) < 0;
            case Due.NOT_LESS: return Integer.compareUnsigned(a, y) >= 0;
            case Due.LESS_SIGNED: return a < y;
            case Due.NOT_LESS_SIGNED: return a >= y;
            default: return true;
        }
    }

    private static int compute(int op, int a, int y) {
        switch (op) {
            case Due.MOVE: return y;
            case Due.ADD: return (int) ((long) a + y);
            case Due.SUBTRACT: return (int) ((long) a - y);
            case Due.MULTIPLY: return (int) ((long) a * y);
            case Due.AND: return a & y;
            case Due.OR: return a | y;
            case Due.XOR: return a ^ y;
            case Due.LEFT: return a << y;
            case Due.RIGHT: return a >>> y;
            case Due.RIGHT_SIGNED: return a >> y;
            case Due.DIVIDE: return Integer.divideUnsigned(a, y);
            default: return Integer.remainderUnsigned(a, y);
        }
    }
}
