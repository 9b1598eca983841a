import java.util.ArrayList;
import java.util.List;

/** Promises 6 and 7: walk and steps. */
public final class WalkTest {
    public static void main(String[] args) {
        letIn();
        passedEnd();
        tooLong();
        unsetRegisters();
        registersThatAreNotRead();
        divisors();
        places();
        unsetPlaces();
        bytes();
        orderOfAlarms();
        orderOfWays();
        waysThatAreNotWalked();
        impossibleAfterAnOperation();
        walksAnew();
        Due.finish();
    }

    private static int[] set(int r) {
        return Due.number(Due.MOVE, r, 0);
    }

    private static void letIn() {
        Due.walks("the plainest", 0, 2, set(0), Due.end());
        Due.walks("two ways", 0, 5, set(0), Due.whole(Due.LESS, 2, 1, 0, 1), Due.end(), set(3), Due.end());
        Due.walks("END early", 0, 2, set(0), Due.end(), Due.register(Due.ADD, 5, 5));
        Due.walks("what is gone over", 0, 3, set(0), Due.whole(Due.GO, 0, -1, 0, 1), Due.register(Due.ADD, 5, 5),
            Due.end());
    }

    private static void passedEnd() {
        Due.walks("empty", 100, 1);
        Due.walks("no END", 101, 2, set(0));
        Due.walks("gone past", 124, 2, Due.whole(Due.GO, 0, -1, 0, 23));
        Due.walks("the second way passes", 103, 4, set(0), Due.whole(Due.BEYOND, 0, 1, 0, 1), Due.end());
        int[][] program = new int[24][];
        for (int i = 0; i < 23; i++) {
            program[i] = set(0);
        }
        program[23] = Due.whole(Due.GO, 0, -1, 0, 23);
        Due.walks("as far past as can be", 147, 25, program);
    }

    /**
     * Five times two ways that come together again, with so many MOVEs before the first of them, after one, two,
     * ..; the steps are the sum of before[i] * 2^i, and 286.
     */
    private static List<int[]> longProgram(int... before) {
        List<int[]> program = new ArrayList<>();
        for (int i = 0; i < 5; i++) {
            for (int k = 0; k < before[i]; k++) {
                program.add(set(0));
            }
            program.add(Due.whole(Due.BEYOND, 0, 1, 0, 1));
            program.add(set(0));
        }
        for (int k = 0; k < 6; k++) {
            program.add(set(0));
        }
        program.add(Due.end());
        return program;
    }

    private static void tooLong() {
        Due.walks("286 steps", 0, 286, longProgram(0, 0, 0, 0, 0).toArray(new int[0][]));
        Due.walks("300 steps", 0, 300, longProgram(0, 1, 1, 1, 0).toArray(new int[0][]));
        Due.walks("301 steps", 220, 301, longProgram(1, 1, 1, 1, 0).toArray(new int[0][]));
        List<int[]> past = longProgram(1, 0, 1, 1, 0);
        past.add(0, Due.whole(Due.BEYOND, 0, 1, 0, 23));
        Due.walks("the 301st step passes the end", 124, 301, past.toArray(new int[0][]));
        List<int[]> unset = longProgram(1, 0, 1, 1, 0);
        unset.add(0, Due.whole(Due.BEYOND, 0, 1, 0, 20));
        unset.add(Due.register(Due.ADD, 5, 5));
        Due.walks("the 301st step comes to an unset register", 221, 301, unset.toArray(new int[0][]));
    }

    private static void unsetRegisters() {
        Due.walks("END without register 0", 300, 1, Due.end());
        Due.walks("END on the second way without it", 304, 5, Due.whole(Due.BEYOND, 0, 1, 0, 2), set(0), Due.end(),
            set(3), Due.end());
        for (int op = 0; op <= 21; op++) {
            int offset = op == Due.LOAD ? 1 : op >= Due.BEYOND ? 1 : 0;
            boolean needsB = op == Due.LOAD || op == Due.BEYOND;
            boolean readsA = op != Due.MOVE && op != Due.GET && op != Due.LOAD && op != Due.BEYOND;
            if (readsA) {
                Due.walks("A unset, op " + op, 300, 1, Due.whole(op, 3, 1, 1, offset), Due.end());
                Due.walks("A unset and a number, op " + op, 300, 1, Due.whole(op, 0, -1, 1, offset), Due.end());
            }
            Due.walks("B unset, op " + op, 300, 1, Due.whole(op, 1, 4, 1, offset), Due.end());
            if (!needsB) {
                ProgramGate x = Due.gate(set(0), Due.whole(op, 1, -1, 1, offset), Due.end(), Due.end());
                Due.due("no B, op " + op, x.walk() / 100 == 3, false);
            }
        }
        for (int r = 0; r < 6; r++) {
            boolean isSet = r == 1 || r == 2;
            Due.walks("register " + r, isSet ? 0 : 300, isSet ? 2 : 1, Due.register(Due.MOVE, 0, r), Due.end());
        }
    }

    private static void registersThatAreNotRead() {
        Due.walks("MOVE's A", 0, 2, Due.number(Due.MOVE, 0, 1), Due.end());
        Due.walks("GET's A", 0, 3, Due.number(Due.PUT, 1, 0), Due.number(Due.GET, 0, 0), Due.end());
        Due.walks("LOAD's A", 104, 4, Due.whole(Due.BEYOND, 0, 1, 4, 3), Due.whole(Due.LOAD, 0, 1, 0, 4), Due.end());
        Due.walks("BEYOND's A", 0, 4, set(0), Due.whole(Due.BEYOND, 5, 1, 0, 1), Due.end(), Due.end());
        Due.walks("GO's A and B", 0, 3, set(0), Due.whole(Due.GO, 4, 5, 0, 1), Due.end(), Due.end());
        Due.walks("END's A and B", 0, 2, set(0), Due.whole(Due.END, 4, 5, 0, 0));
    }

    private static void divisors() {
        for (int op = Due.DIVIDE; op <= Due.REST; op++) {
            Due.walks("by 0", 401, 2, set(0), Due.number(op, 0, 0), Due.end());
            Due.walks("by 1", 0, 3, set(0), Due.number(op, 0, 1), Due.end());
            Due.walks("by -1", 0, 3, set(0), Due.number(op, 0, -1), Due.end());
            Due.walks("by the length", 401, 2, set(0), Due.register(op, 0, 1), Due.end());
            Due.walks("by the argument", 401, 2, set(0), Due.register(op, 0, 2), Due.end());
            Due.walks("by the argument with a bit", 0, 4, set(0), Due.number(Due.OR, 2, 64), Due.register(op, 0, 2),
                Due.end());
            // Only LOW counts: that the argument is not 0 leaves no trace in it.
            Due.walks("by what is not 0", 402, 3, set(0), Due.whole(Due.EQUAL, 2, -1, 0, 1), Due.register(op, 0, 2),
                Due.end());
        }
    }

    private static void places() {
        for (int op = Due.GET; op <= Due.PUT; op++) {
            for (int place : new int[] {4, -1, Integer.MIN_VALUE, Integer.MAX_VALUE}) {
                Due.walks("place " + place, 501, 2, set(0), Due.number(op, 0, place), Due.end());
            }
            Due.walks("the length's place", 501, 2, set(0), Due.register(op, 0, 1), Due.end());
            Due.walks("any place", 501, 2, set(0), Due.register(op, 0, 2), Due.end());
            Due.walks("0 .. 4", 503, 4, set(0), Due.number(Due.AND, 2, 3), Due.number(Due.ADD, 2, 1),
                Due.register(op, 0, 2), Due.end());
        }
        for (int place = 0; place <= 3; place++) {
            Due.walks("place " + place, 0, 4, set(0), Due.number(Due.PUT, 0, place), Due.number(Due.GET, 0, place),
                Due.end());
        }
        Due.walks("PUT to 0 .. 3", 0, 4, set(0), Due.number(Due.AND, 2, 3), Due.register(Due.PUT, 0, 2), Due.end());
    }

    private static void unsetPlaces() {
        for (int place = 0; place <= 3; place++) {
            Due.walks("unset place " + place, 600, 1, Due.number(Due.GET, 0, place), Due.end());
        }
        for (int left = 0; left <= 3; left++) {
            List<int[]> program = new ArrayList<>();
            program.add(Due.number(Due.AND, 2, 3));
            for (int place = 0; place <= 3; place++) {
                if (place != left) {
                    program.add(Due.number(Due.PUT, 1, place));
                }
            }
            program.add(Due.register(Due.GET, 0, 2));
            program.add(Due.end());
            Due.walks("place " + left + " left out", 604, 5, program.toArray(new int[0][]));
            program.add(0, Due.number(Due.PUT, 1, left));
            Due.walks("no place left out", 0, 7, program.toArray(new int[0][]));
        }
        // A PUT to one of several places sets none that was unset.
        Due.walks("PUT to 0 or 1", 604, 5, Due.number(Due.AND, 2, 1), Due.number(Due.PUT, 1, 0),
            Due.register(Due.PUT, 1, 2), Due.number(Due.GET, 0, 0), Due.number(Due.GET, 0, 1), Due.end());
    }

    /** A LOAD behind a BEYOND of so much; the way that goes is at END at once. */
    private static void guardedLoad(int guard, int n, int howMany, boolean fits) {
        Due.walks("BEYOND " + guard + ", LOAD " + howMany + " from " + n, fits ? 0 : 702, fits ? 5 : 3,
            set(0), Due.whole(Due.BEYOND, 0, 2, guard, 1), Due.whole(Due.LOAD, 0, 2, n, howMany), Due.end());
    }

    private static void bytes() {
        for (int howMany : new int[] {1, 2, 4}) {
            guardedLoad(8, 8 - howMany, howMany, true);
            guardedLoad(8, 9 - howMany, howMany, false);
            guardedLoad(16, 16 - howMany, howMany, true);
            guardedLoad(16, 16, howMany, false);
            guardedLoad(0, 0, howMany, false);
        }
        Due.walks("without BEYOND", 700, 1, Due.whole(Due.LOAD, 0, 1, 0, 1), Due.end());
        Due.walks("a number is never safe", 701, 2, set(3), Due.whole(Due.LOAD, 0, 3, 0, 1), Due.end());
        Due.walks("where BEYOND goes nothing is safe", 703, 5, set(0), Due.whole(Due.BEYOND, 0, 1, 4, 1),
            Due.whole(Due.GO, 0, -1, 0, 1), Due.whole(Due.LOAD, 0, 1, 0, 1), Due.end());
    }

    private static void orderOfAlarms() {
        Due.walks("3 before 4", 300, 1, Due.number(Due.DIVIDE, 0, 0), Due.end());
        Due.walks("3 before 5", 300, 1, Due.number(Due.PUT, 0, 4), Due.end());
        Due.walks("5 before 6", 500, 1, Due.number(Due.GET, 0, 4), Due.end());
        Due.walks("3 before 7", 300, 1, Due.whole(Due.LOAD, 0, 3, 0, 1), Due.end());
    }

    private static void orderOfWays() {
        for (int op = Due.BEYOND; op <= Due.NOT_LESS_SIGNED; op++) {
            Due.walks("the way that does not go is first, op " + op, 302, 3, set(0), Due.whole(op, 2, 1, 0, 1),
                Due.register(Due.ADD, 3, 0), Due.register(Due.ADD, 3, 0));
        }
        // The way that parted latest is taken up first: that of 2 comes to 6 before that of 1 comes to 5.
        Due.walks("to its ends first", 306, 5, set(0), Due.whole(Due.BEYOND, 0, 1, 0, 3),
            Due.whole(Due.BEYOND, 0, 1, 0, 3),
            Due.end(), Due.end(), Due.register(Due.ADD, 4, 4), Due.register(Due.ADD, 3, 3));
    }

    /** MOVE 5 to register 3, then the relation with n; END on both ways. */
    private static void waysOf(int op, int n, boolean stays, boolean goes) {
        int ways = (stays ? 1 : 0) + (goes ? 1 : 0);
        Due.walks("op " + op + " of 5 and " + n, 0, 3 + ways, set(0), Due.number(Due.MOVE, 3, 5),
            Due.whole(op, 3, -1, n, 1), Due.end(), Due.end());
        Due.walks("op " + op + " of 5 and " + n + " by register", 0, 4 + ways, set(0), Due.number(Due.MOVE, 3, 5),
            Due.number(Due.MOVE, 4, n), Due.whole(op, 3, 4, 0, 1), Due.end(), Due.end());
        // The way that is not walked raises no alarm either.
        int[] alarming = Due.register(Due.ADD, 5, 5);
        Due.walks("op " + op + " of 5 and " + n + ", not going alarms", stays ? 303 : 0, 3 + (stays ? 1 : ways), set(0),
            Due.number(Due.MOVE, 3, 5), Due.whole(op, 3, -1, n, 1), alarming, Due.end());
        Due.walks("op " + op + " of 5 and " + n + ", going alarms", goes ? 304 : 0, 3 + ways, set(0),
            Due.number(Due.MOVE, 3, 5), Due.whole(op, 3, -1, n, 1), Due.end(), alarming);
    }

    private static void waysThatAreNotWalked() {
        for (int n : new int[] {4, 5, 6, 0, -1, Integer.MIN_VALUE, Integer.MAX_VALUE}) {
            waysOf(Due.EQUAL, n, n != 5, n == 5);
            waysOf(Due.UNLIKE, n, n == 5, n != 5);
            waysOf(Due.LESS, n, Integer.compareUnsigned(5, n) >= 0, Integer.compareUnsigned(5, n) < 0);
            waysOf(Due.NOT_LESS, n, Integer.compareUnsigned(5, n) < 0, Integer.compareUnsigned(5, n) >= 0);
            waysOf(Due.LESS_SIGNED, n, 5 >= n, 5 < n);
            waysOf(Due.NOT_LESS_SIGNED, n, 5 < n, 5 >= n);
        }
        // 1 in the lowest bit of one, 0 in that of the other.
        int[][] odd = {set(0), Due.register(Due.MOVE, 3, 2), Due.number(Due.OR, 3, 1), Due.number(Due.LEFT, 2, 1)};
        Due.walks("odd EQUAL even", 0, 6, odd[0], odd[1], odd[2], odd[3], Due.whole(Due.EQUAL, 3, 2, 0, 1), Due.end(),
            Due.end());
        Due.walks("odd UNLIKE even", 0, 6, odd[0], odd[1], odd[2], odd[3], Due.whole(Due.UNLIKE, 3, 2, 0, 1), Due.end(),
            Due.end());
        // 0, 1, 4 or 5, and then 2 or 3: the bit that LOW and HIGH have in common is known otherwise.
        Due.walks("a bit known otherwise", 0, 6, set(0), Due.number(Due.AND, 2, 5), Due.whole(Due.LESS, 2, -1, 2, 2),
            Due.whole(Due.LESS, 2, -1, 4, 2), Due.end(), Due.end(), Due.register(Due.ADD, 5, 5));
        // One register on both sides.
        Due.walks("r UNLIKE r, nothing known", 0, 4, set(0), Due.whole(Due.UNLIKE, 2, 2, 0, 1), Due.end(), Due.end());
        Due.walks("r UNLIKE r, known exactly", 0, 3, set(0), Due.whole(Due.UNLIKE, 0, 0, 0, 1), Due.end(), Due.end());
        Due.walks("r EQUAL r, known exactly", 0, 3, set(0), Due.whole(Due.EQUAL, 0, 0, 0, 1), Due.end(), Due.end());
        Due.walks("r LESS r, nothing known", 0, 4, set(0), Due.whole(Due.LESS, 2, 2, 0, 1), Due.end(), Due.end());
        Due.walks("r LESS r, known exactly", 0, 3, set(0), Due.whole(Due.LESS, 0, 0, 0, 1), Due.end(), Due.end());
        Due.walks("r LESS SIGNED r, known exactly", 0, 3, set(0), Due.whole(Due.LESS_SIGNED, 0, 0, 0, 1), Due.end(),
            Due.end());
        Due.walks("BEYOND walks both though it can't go", 0, 4, set(0), Due.whole(Due.BEYOND, 0, 0, 0, 1), Due.end(),
            Due.end());
    }

    /**
     * A fourfold number from 5 to 7 is impossible, but it takes two tightenings to see: after the relations all its
     * bits are known as those of 4, and the ADD then finds LOW above that.
     */
    private static void impossibleAfterAnOperation() {
        Due.walks("not walked on", 0, 8, set(0), Due.register(Due.MOVE, 3, 2), Due.number(Due.LEFT, 3, 2),
            Due.whole(Due.LESS, 3, -1, 5, 3), Due.whole(Due.NOT_LESS, 3, -1, 8, 2), Due.number(Due.ADD, 3, 0),
            Due.whole(Due.GO, 0, -1, 0, 23), Due.end());
        Due.walks("MOVE tightens nothing", 130, 8, set(0), Due.register(Due.MOVE, 3, 2), Due.number(Due.LEFT, 3, 2),
            Due.whole(Due.LESS, 3, -1, 5, 3), Due.whole(Due.NOT_LESS, 3, -1, 8, 2), Due.register(Due.MOVE, 3, 3),
            Due.whole(Due.GO, 0, -1, 0, 23), Due.end());
    }

    private static void walksAnew() {
        ProgramGate x = Due.gate(set(0), Due.number(Due.PUT, 0, 0), set(5), Due.whole(Due.BEYOND, 0, 1, 4, 1),
            Due.end());
        Due.due("alarm on the second way", x.walk(), 105);
        Due.due("steps", x.steps(), 6);
        Due.append(x, Due.end());
        Due.due("with another END", x.walk(), 0);
        Due.due("steps", x.steps(), 6);
        x.clear();
        Due.due("steps stay", x.steps(), 6);
        // What the walk before knew, and its ways, are forgotten.
        Due.append(x, set(0), Due.register(Due.MOVE, 0, 5), Due.end());
        Due.due("register 5 is unset again", x.walk(), 301);
        Due.due("steps", x.steps(), 2);
        x.clear();
        Due.append(x, Due.end());
        Due.due("register 0 is unset again", x.walk(), 300);
        x.clear();
        Due.append(x, Due.number(Due.GET, 0, 0), Due.end());
        Due.due("place 0 is unset again", x.walk(), 600);
        x.clear();
        Due.append(x, set(0), Due.end());
        Due.due("no way waits from before", x.walk(), 0);
        Due.due("steps", x.steps(), 2);
        Due.due("packet", x.packet(1, 1, 16), true);
        Due.due("a packet changes no walk", x.walk(), 0);
        // An alarm leaves ways unwalked; the next walk must not take them up.
        x.clear();
        Due.append(x, Due.whole(Due.BEYOND, 0, 1, 0, 1), Due.register(Due.ADD, 5, 5), Due.end());
        Due.due("an alarm with a way waiting", x.walk(), 301);
        x.clear();
        Due.append(x, set(0), set(0), Due.end());
        Due.due("walk", x.walk(), 0);
        Due.due("steps", x.steps(), 3);
    }
}
