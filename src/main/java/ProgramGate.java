/** A gate for small programs that look at a packet of bytes; ../shared/DOC.md says what it promises. */
public final class ProgramGate {
    public static final int NONE = -1;

    private static final int MOVE = 0;
    private static final int ADD = 1;
    private static final int SUBTRACT = 2;
    private static final int MULTIPLY = 3;
    private static final int AND = 4;
    private static final int OR = 5;
    private static final int XOR = 6;
    private static final int LEFT = 7;
    private static final int RIGHT = 8;
    private static final int RIGHT_SIGNED = 9;
    private static final int DIVIDE = 10;
    private static final int REST = 11;
    private static final int GET = 12;
    private static final int PUT = 13;
    private static final int LOAD = 14;
    private static final int BEYOND = 15;
    private static final int EQUAL = 16;
    private static final int UNLIKE = 17;
    private static final int LESS = 18;
    private static final int NOT_LESS = 19;
    private static final int LESS_SIGNED = 20;
    private static final int NOT_LESS_SIGNED = 21;
    private static final int GO = 22;
    private static final int END = 23;

    private static final int MOST_INSTRUCTIONS = 24;
    private static final int MOST_OFFSET = 23;
    private static final int MOST_BYTES = 16;
    private static final int MOST_STEPS = 300;
    private static final int MOST_SAFE = 20;
    private static final int REGISTERS = 6;
    private static final int PLACES = 4;
    private static final int LENGTH_REGISTER = 1;
    private static final int ARGUMENT_REGISTER = 2;

    private static final int ALARM_PASSED_END = 1;
    private static final int ALARM_TOO_LONG = 2;
    private static final int ALARM_UNSET_REGISTER = 3;
    private static final int ALARM_DIVISOR = 4;
    private static final int ALARM_NO_PLACE = 5;
    private static final int ALARM_UNSET_PLACE = 6;
    private static final int ALARM_NO_BYTE = 7;

    private static final long MOST_UNSIGNED = 0xFFFFFFFFL;
    private static final long HALF = 1L << 31;
    private static final long UNTOLD = 1L << 62;

    private final Program program;
    private final Packet bytes;
    private final Walker walker;
    private final Machine machine;

    public ProgramGate() {
        program = new Program();
        bytes = new Packet();
        walker = new Walker(program);
        machine = new Machine(program, bytes);
    }

    public int add(int op, int a, int b, int n, int offset) {
        if (program.count >= MOST_INSTRUCTIONS || !Instruction.allowed(op, a, b, n, offset)) {
            return NONE;
        }
        program.instructions[program.count].become(op, a, b, n, offset);
        program.count++;
        return program.count;
    }

    public int clear() {
        int had = program.count;
        program.count = 0;
        return had;
    }

    public int size() {
        return program.count;
    }

    public boolean packet(long low, long high, int n) {
        if (n < 0 || n > MOST_BYTES) {
            return false;
        }
        bytes.become(low, high, n);
        return true;
    }

    public int walk() {
        return walker.judge();
    }

    public int steps() {
        return walker.stepsMade;
    }

    public int run(int argument) throws IllegalStateException, ArithmeticException, IndexOutOfBoundsException {
        return machine.answer(argument);
    }

    public int ran() {
        return machine.instructionsMade;
    }

    public long known(int r, int what) {
        if (r < 0 || r >= REGISTERS || !walker.ended) {
            return UNTOLD;
        }
        return walker.atEnd.registers[r].told(what);
    }

    private static long unsigned(int x) {
        return x & MOST_UNSIGNED;
    }

    private static boolean isInt(long x) {
        return x >= Integer.MIN_VALUE && x <= Integer.MAX_VALUE;
    }

    /** One instruction of a program. */
    private static final class Instruction {
        int op;
        int a;
        int b;
        int n;
        int offset;

        static boolean allowed(int op, int a, int b, int n, int offset) {
            if (op < MOVE || op > END || a < 0 || a >= REGISTERS || b < NONE || b >= REGISTERS) {
                return false;
            }
            if ((op == LOAD || op == BEYOND) && (b == NONE || n < 0 || n > MOST_BYTES)) {
                return false;
            }
            if (op == LOAD) {
                return offset == 1 || offset == 2 || offset == 4;
            }
            boolean goes = op >= BEYOND && op <= GO;
            return !goes || offset >= 1 && offset <= MOST_OFFSET;
        }

        void become(int newOp, int newA, int newB, int newN, int newOffset) {
            op = newOp;
            a = newA;
            b = newB;
            n = newN;
            offset = newOffset;
        }

        boolean readsA() {
            return op >= ADD && op <= REST || op == PUT || op >= EQUAL && op <= NOT_LESS_SIGNED;
        }

        boolean readsB() {
            return b != NONE && op <= NOT_LESS_SIGNED;
        }
    }

    /** The instructions that have been added; those from count on are left over and mean nothing. */
    private static final class Program {
        final Instruction[] instructions = new Instruction[MOST_INSTRUCTIONS];
        int count;

        Program() {
            for (int i = 0; i < MOST_INSTRUCTIONS; i++) {
                instructions[i] = new Instruction();
            }
        }
    }

    /** The bytes that programs look at, each from 0 to 255. */
    private static final class Packet {
        final int[] values = new int[MOST_BYTES];
        int length;

        void become(long low, long high, int n) {
            length = n;
            for (int i = 0; i < n; i++) {
                long half = i < 8 ? low : high;
                values[i] = (int) (half >>> (8 * (i % 8))) & 255;
            }
        }
    }

    /** Runs the program on real numbers. */
    private static final class Machine {
        private final Program program;
        private final Packet packet;
        private final int[] registers = new int[REGISTERS];
        private final int[] stack = new int[PLACES];
        int instructionsMade;

        Machine(Program program, Packet packet) {
            this.program = program;
            this.packet = packet;
        }

        int answer(int argument) {
            begin(argument);
            int place = 0;
            // Every instruction leads further on, so none is made twice.
            for (int left = MOST_INSTRUCTIONS; left > 0 && place < program.count; left--) {
                Instruction i = program.instructions[place];
                instructionsMade++;
                if (i.op == END) {
                    return registers[0];
                }
                place += make(i) ? 1 + i.offset : 1;
            }
            throw new IllegalStateException("the program's end is passed");
        }

        private void begin(int argument) {
            instructionsMade = 0;
            for (int r = 0; r < REGISTERS; r++) {
                registers[r] = 0;
            }
            for (int p = 0; p < PLACES; p++) {
                stack[p] = 0;
            }
            registers[LENGTH_REGISTER] = packet.length;
            registers[ARGUMENT_REGISTER] = argument;
        }

        /** True if the instruction goes by its offset. */
        private boolean make(Instruction i) {
            int y = i.b == NONE ? i.n : registers[i.b];
            if (i.op == GO) {
                return true;
            }
            if (i.op >= EQUAL) {
                return holds(i.op, registers[i.a], y);
            }
            if (i.op == BEYOND) {
                return unsigned(y) + i.n > packet.length;
            }
            if (i.op == PUT) {
                stack[checkedPlace(y)] = registers[i.a];
            } else if (i.op == GET) {
                registers[i.a] = stack[checkedPlace(y)];
            } else if (i.op == LOAD) {
                registers[i.a] = load(unsigned(y) + i.n, i.offset);
            } else {
                registers[i.a] = compute(i.op, registers[i.a], y);
            }
            return false;
        }

        private int checkedPlace(int y) {
            if (y < 0 || y >= PLACES) {
                throw new IndexOutOfBoundsException("the stack has no such place");
            }
            return y;
        }

        private int load(long from, int howMany) {
            if (from + howMany > packet.length) {
                throw new IndexOutOfBoundsException("the packet has no such byte");
            }
            int loaded = 0;
            for (int k = 0; k < howMany; k++) {
                loaded |= packet.values[(int) from + k] << (8 * k);
            }
            return loaded;
        }

        private static int compute(int op, int x, int y) {
            switch (op) {
                case ADD: return x + y;
                case SUBTRACT: return x - y;
                case MULTIPLY: return x * y;
                case AND: return x & y;
                case OR: return x | y;
                case XOR: return x ^ y;
                case LEFT: return x << (y & 31);
                case RIGHT: return x >>> (y & 31);
                case RIGHT_SIGNED: return x >> (y & 31);
                case DIVIDE: return (int) (unsigned(x) / checkedDivisor(y));
                case REST: return (int) (unsigned(x) % checkedDivisor(y));
                default: return y;
            }
        }

        private static long checkedDivisor(int y) {
            if (y == 0) {
                throw new ArithmeticException("it divides by 0");
            }
            return unsigned(y);
        }

        private static boolean holds(int op, int x, int y) {
            switch (op) {
                case EQUAL: return x == y;
                case UNLIKE: return x != y;
                case LESS: return unsigned(x) < unsigned(y);
                case NOT_LESS: return unsigned(x) >= unsigned(y);
                case LESS_SIGNED: return x < y;
                default: return x >= y;
            }
        }
    }

    /** What is known of a number; while it is not set, the other fields are left over and mean nothing. */
    private static final class Known {
        boolean set;
        int bits;
        int ones;
        long low;
        long high;
        long least;
        long most;
        int safe;

        void becomeNothing() {
            set = true;
            bits = 0;
            ones = 0;
            low = 0;
            high = MOST_UNSIGNED;
            least = Integer.MIN_VALUE;
            most = Integer.MAX_VALUE;
            safe = 0;
        }

        void becomeNumber(int n) {
            becomeNothing();
            bits = -1;
            ones = n;
            boundUnsigned(unsigned(n), unsigned(n));
            boundSigned(n, n);
        }

        void becomeUpTo(int top) {
            becomeNothing();
            boundUnsigned(0, top);
            boundSigned(0, top);
            tighten();
        }

        void take(Known other) {
            set = other.set;
            bits = other.bits;
            ones = other.ones;
            boundUnsigned(other.low, other.high);
            boundSigned(other.least, other.most);
            safe = other.safe;
        }

        void boundUnsigned(long newLow, long newHigh) {
            low = newLow;
            high = newHigh;
        }

        void boundSigned(long newLeast, long newMost) {
            least = newLeast;
            most = newMost;
        }

        boolean isExact() {
            return low == high;
        }

        int zeros() {
            return bits & ~ones;
        }

        boolean contradicts(int otherBits, int otherOnes) {
            return (bits & otherBits & (ones ^ otherOnes)) != 0;
        }

        void meet(Known other) {
            bits = bits & other.bits & ~(ones ^ other.ones);
            ones &= bits;
            boundUnsigned(Math.min(low, other.low), Math.max(high, other.high));
            boundSigned(Math.min(least, other.least), Math.max(most, other.most));
            safe = Math.min(safe, other.safe);
        }

        /** False if a bit is known otherwise in both. */
        boolean join(Known other) {
            if (contradicts(other.bits, other.ones)) {
                return false;
            }
            bits |= other.bits;
            ones |= other.ones;
            boundUnsigned(Math.max(low, other.low), Math.min(high, other.high));
            boundSigned(Math.max(least, other.least), Math.min(most, other.most));
            safe = Math.max(safe, other.safe);
            return true;
        }

        /** False if what is known is impossible. */
        boolean tighten() {
            low = Math.max(low, unsigned(ones));
            high = Math.min(high, unsigned(ones | ~bits));
            if ((low < HALF) == (high < HALF)) {
                least = Math.max(least, (int) low);
                most = Math.min(most, (int) high);
            }
            if ((least < 0) == (most < 0)) {
                low = Math.max(low, unsigned((int) least));
                high = Math.min(high, unsigned((int) most));
            }
            // A long is shifted, since an int shifted by 32 would stay as it is.
            int common = (int) (-1L << (64 - Long.numberOfLeadingZeros(low ^ high)));
            if (low > high || least > most || contradicts(common, (int) low)) {
                return false;
            }
            bits |= common;
            ones |= (int) low & common;
            return true;
        }

        long told(int what) {
            if (!set) {
                return UNTOLD;
            }
            switch (what) {
                case 0: return unsigned(bits);
                case 1: return unsigned(ones);
                case 2: return low;
                case 3: return high;
                case 4: return least;
                case 5: return most;
                case 6: return safe;
                default: return UNTOLD;
            }
        }
    }

    /** What is known after ADD .. REST on a and b; the result is an object beside those two. */
    private static final class Operation {
        /** False if the result is impossible. */
        static boolean outcome(int op, Known a, Known b, Known result) {
            result.becomeNothing();
            switch (op) {
                case ADD: sum(a, b, result); break;
                case SUBTRACT: difference(a, b, result); break;
                case MULTIPLY: product(a, b, result); break;
                case AND: bothOnes(a, b, result); break;
                case OR: eitherOne(a, b, result); break;
                case XOR: unlikeBits(a, b, result); break;
                case DIVIDE: quotient(a, b, result); break;
                case REST: rest(a, b, result); break;
                default: shifted(op, a, b, result); break;
            }
            return result.tighten();
        }

        /** The bits below the lowest one that is unknown in a or b. */
        private static int lowestBits(Known a, Known b) {
            int unknown = ~(a.bits & b.bits);
            return (unknown & -unknown) - 1;
        }

        private static void sum(Known a, Known b, Known result) {
            result.bits = lowestBits(a, b);
            result.ones = (a.ones + b.ones) & result.bits;
            if (a.high + b.high <= MOST_UNSIGNED) {
                result.boundUnsigned(a.low + b.low, a.high + b.high);
            }
            if (isInt(a.least + b.least) && isInt(a.most + b.most)) {
                result.boundSigned(a.least + b.least, a.most + b.most);
            }
            if (b.isExact() && b.low <= MOST_SAFE && a.high + b.low <= MOST_UNSIGNED) {
                result.safe = Math.max(a.safe - (int) b.low, 0);
            }
        }

        private static void difference(Known a, Known b, Known result) {
            result.bits = lowestBits(a, b);
            result.ones = (a.ones - b.ones) & result.bits;
            if (a.low - b.high >= 0) {
                result.boundUnsigned(a.low - b.high, a.high - b.low);
            }
            if (isInt(a.least - b.most) && isInt(a.most - b.least)) {
                result.boundSigned(a.least - b.most, a.most - b.least);
            }
        }

        private static void product(Known a, Known b, Known result) {
            result.bits = lowestBits(a, b);
            result.ones = (a.ones * b.ones) & result.bits;
            // The product may pass Long.MAX_VALUE, so its upper half is looked at, not its size.
            if ((a.high * b.high) >>> 32 == 0) {
                result.boundUnsigned(a.low * b.low, a.high * b.high);
            }
        }

        private static void bothOnes(Known a, Known b, Known result) {
            result.ones = a.ones & b.ones;
            result.bits = result.ones | a.zeros() | b.zeros();
            result.high = Math.min(a.high, b.high);
        }

        private static void eitherOne(Known a, Known b, Known result) {
            result.ones = a.ones | b.ones;
            result.bits = result.ones | (a.zeros() & b.zeros());
            result.low = Math.max(a.low, b.low);
        }

        private static void unlikeBits(Known a, Known b, Known result) {
            result.bits = a.bits & b.bits;
            result.ones = (a.ones ^ b.ones) & result.bits;
        }

        private static void shifted(int op, Known a, Known b, Known result) {
            if (!b.isExact()) {
                return;
            }
            int by = (int) b.low & 31;
            if (op == LEFT) {
                result.bits = (a.bits << by) | ~(-1 << by);
                result.ones = a.ones << by;
            } else if (op == RIGHT) {
                result.bits = (a.bits >>> by) | ~(-1 >>> by);
                result.ones = a.ones >>> by;
                result.boundUnsigned(a.low >>> by, a.high >>> by);
            } else {
                // An unknown highest bit is 0 in both, so what comes in for it is unknown as well.
                result.bits = a.bits >> by;
                result.ones = a.ones >> by;
                result.boundSigned(a.least >> by, a.most >> by);
            }
        }

        private static void quotient(Known a, Known b, Known result) {
            if (b.low > 0 && b.high > 0) {
                result.boundUnsigned(a.low / b.high, a.high / b.low);
            }
        }

        private static void rest(Known a, Known b, Known result) {
            if (b.low > 0) {
                result.boundUnsigned(0, Math.min(a.high, b.high - 1));
            }
        }
    }

    /** What is known of all registers and places at one point of a way. */
    private static final class State {
        final Known[] registers = new Known[REGISTERS];
        final Known[] places = new Known[PLACES];

        State() {
            for (int r = 0; r < REGISTERS; r++) {
                registers[r] = new Known();
            }
            for (int p = 0; p < PLACES; p++) {
                places[p] = new Known();
            }
        }

        void begin() {
            for (int r = 0; r < REGISTERS; r++) {
                registers[r].set = false;
            }
            for (int p = 0; p < PLACES; p++) {
                places[p].set = false;
            }
            registers[LENGTH_REGISTER].becomeUpTo(MOST_BYTES);
            registers[ARGUMENT_REGISTER].becomeNothing();
        }

        void take(State other) {
            for (int r = 0; r < REGISTERS; r++) {
                registers[r].take(other.registers[r]);
            }
            for (int p = 0; p < PLACES; p++) {
                places[p].take(other.places[p]);
            }
        }
    }

    /** Walks the program along all its ways. */
    private static final class Walker {
        private final Program program;
        private final State now = new State();
        // Where two ways part, the one that goes waits under the place of the instruction.
        private final State[] waiting = new State[MOST_INSTRUCTIONS];
        private final boolean[] waits = new boolean[MOST_INSTRUCTIONS];
        private final Known number = new Known();
        private final Known first = new Known();
        private final Known second = new Known();
        final State atEnd = new State();
        boolean ended;
        int stepsMade;

        Walker(Program program) {
            this.program = program;
            for (int i = 0; i < MOST_INSTRUCTIONS; i++) {
                waiting[i] = new State();
            }
        }

        int judge() {
            begin();
            int place = 0;
            int alarm = 0;
            while (place != NONE && alarm == 0 && stepsMade <= MOST_STEPS) {
                stepsMade++;
                alarm = alarmAt(place);
                if (alarm == 0) {
                    place = placeAfter(place);
                }
            }
            return alarm == 0 ? 0 : 100 * alarm + place;
        }

        private void begin() {
            stepsMade = 0;
            ended = false;
            now.begin();
            for (int i = 0; i < MOST_INSTRUCTIONS; i++) {
                waits[i] = false;
            }
        }

        private int alarmAt(int place) {
            if (place >= program.count) {
                return ALARM_PASSED_END;
            }
            if (stepsMade > MOST_STEPS) {
                return ALARM_TOO_LONG;
            }
            Instruction i = program.instructions[place];
            if (readsUnset(i)) {
                return ALARM_UNSET_REGISTER;
            }
            switch (i.op) {
                case DIVIDE:
                case REST:
                    return knownOfY(i).low == 0 ? ALARM_DIVISOR : 0;
                case GET:
                case PUT:
                    return alarmOfPlaces(i.op, knownOfY(i));
                case LOAD:
                    return i.n + i.offset > now.registers[i.b].safe ? ALARM_NO_BYTE : 0;
                default:
                    return 0;
            }
        }

        private boolean readsUnset(Instruction i) {
            if (i.op == END) {
                return !now.registers[0].set;
            }
            return i.readsA() && !now.registers[i.a].set || i.readsB() && !now.registers[i.b].set;
        }

        private int alarmOfPlaces(int op, Known b) {
            if (b.high >= PLACES) {
                return ALARM_NO_PLACE;
            }
            for (int p = (int) b.low; op == GET && p <= b.high; p++) {
                if (!now.places[p].set) {
                    return ALARM_UNSET_PLACE;
                }
            }
            return 0;
        }

        private Known knownOfY(Instruction i) {
            if (i.b != NONE) {
                return now.registers[i.b];
            }
            number.becomeNumber(i.n);
            return number;
        }

        /** NONE if no way is left. */
        private int placeAfter(int place) {
            Instruction i = program.instructions[place];
            if (i.op == END) {
                atEnd.take(now);
                ended = true;
                return resume();
            }
            if (i.op == GO) {
                return place + 1 + i.offset;
            }
            boolean goesOn = i.op >= BEYOND ? part(i, place) : change(i);
            return goesOn ? place + 1 : resume();
        }

        /** Takes up the way that parted latest: that is the one furthest on, since no way leads back. */
        private int resume() {
            for (int i = MOST_INSTRUCTIONS - 1; i >= 0; i--) {
                if (waits[i]) {
                    waits[i] = false;
                    now.take(waiting[i]);
                    return i + 1 + program.instructions[i].offset;
                }
            }
            return NONE;
        }

        /** False if the way is impossible after the instruction. */
        private boolean change(Instruction i) {
            Known a = now.registers[i.a];
            Known y = knownOfY(i);
            switch (i.op) {
                case MOVE:
                    a.take(y);
                    return true;
                case GET:
                    fetch(a, y);
                    return true;
                case PUT:
                    store(a, y);
                    return true;
                case LOAD:
                    if (i.offset == 4) {
                        a.becomeNothing();
                    } else {
                        a.becomeUpTo(i.offset == 1 ? 255 : 65535);
                    }
                    return true;
                default:
                    boolean possible = Operation.outcome(i.op, a, y, first);
                    a.take(first);
                    return possible;
            }
        }

        private void fetch(Known a, Known b) {
            // A may be b: both bounds are read before it changes.
            int from = (int) b.low;
            int to = (int) b.high;
            a.take(now.places[from]);
            for (int p = from + 1; p <= to; p++) {
                a.meet(now.places[p]);
            }
        }

        private void store(Known a, Known b) {
            if (b.isExact()) {
                now.places[(int) b.low].take(a);
                return;
            }
            for (int p = (int) b.low; p <= b.high; p++) {
                if (now.places[p].set) {
                    now.places[p].meet(a);
                }
            }
        }

        /** False if the way that does not go is impossible; the one that goes waits, if it is possible. */
        private boolean part(Instruction i, int place) {
            waiting[place].take(now);
            if (i.op == BEYOND) {
                waits[place] = true;
                Known b = now.registers[i.b];
                b.safe = Math.max(b.safe, i.n);
                return true;
            }
            takePair(i);
            waits[place] = relate(i.op);
            givePair(i, waiting[place]);
            takePair(i);
            // The relations stand in pairs, each beside its contrary.
            boolean goesOn = relate(i.op ^ 1);
            givePair(i, now);
            return goesOn;
        }

        private void takePair(Instruction i) {
            first.take(now.registers[i.a]);
            second.take(knownOfY(i));
        }

        /** A goes before Y, since of one register that is both only what is known of Y stays. */
        private void givePair(Instruction i, State way) {
            way.registers[i.a].take(first);
            if (i.b != NONE) {
                way.registers[i.b].take(second);
            }
        }

        /** Narrows the pair to what is known where the relation holds; false if that is impossible. */
        private boolean relate(int relation) {
            switch (relation) {
                case EQUAL:
                    if (!first.join(second)) {
                        return false;
                    }
                    second.take(first);
                    break;
                case UNLIKE:
                    return !(first.isExact() && second.isExact() && first.low == second.low);
                case LESS:
                    first.high = Math.min(first.high, second.high - 1);
                    second.low = Math.max(second.low, first.low + 1);
                    break;
                case NOT_LESS:
                    first.low = Math.max(first.low, second.low);
                    second.high = Math.min(second.high, first.high);
                    break;
                case LESS_SIGNED:
                    first.most = Math.min(first.most, second.most - 1);
                    second.least = Math.max(second.least, first.least + 1);
                    break;
                default:
                    first.least = Math.max(first.least, second.least);
                    second.most = Math.min(second.most, first.most);
                    break;
            }
            return first.tighten() && second.tighten();
        }
    }
}
