/** The edges that 'Terms' names up to THE MACHINE, sentence by sentence. */
public final class TermsEdgeTest {
    private static final int MIN = Integer.MIN_VALUE;
    private static final int MAX = Integer.MAX_VALUE;

    public static void main(String[] args) {
        toldUnsigned();
        instructions();
        registers();
        places();
        bytes();
        numberOrRegister();
        notLookedAt();
        moves();
        wraps();
        bitByBit();
        shiftedByFiveBits();
        zerosComeIn();
        highestBitComesIn();
        dividesUnsigned();
        getsAndPuts();
        loadsBytes();
        loadsAtThePacketsEnd();
        goesBeyondThePacketsEnd();
        relations();
        goes();
        ends();
        goingByAnOffset();
        everythingElse();
        theMachineBegins();
        theMachineAnswers();
        Due.finish();
    }

    private static void toldUnsigned() {
        Due.says("UNSIGNED, a number is told from 0 to 2^32 - 1.");
        int[] numbers = {0, 1, MAX, MIN, -1};
        long[] told = {0, 1, 2147483647L, 2147483648L, 4294967295L};
        for (int k = 0; k < numbers.length; k++) {
            ProgramGate x = Due.gate(Due.number(Due.MOVE, 0, numbers[k]), Due.end());
            Due.due("walk", x.walk(), 0);
            for (int what = 1; what <= 3; what++) {
                Due.due("known(0, " + what + ") of " + numbers[k], x.known(0, what), told[k]);
            }
        }
    }

    private static void instructions() {
        Due.says("A PROGRAM has at most 24 INSTRUCTIONS, at 0, 1, ...");
        ProgramGate x = new ProgramGate();
        for (int i = 0; i < 23; i++) {
            Due.due("add at " + i, x.add(Due.ADD, 2, -1, 1, 0), i + 1);
        }
        Due.due("add at 23", x.add(Due.MOVE, 0, 2, 0, 0), 24);
        Due.due("add at 24", x.add(Due.END, 0, -1, 0, 0), ProgramGate.NONE);
        Due.due("walk past the 24th", x.walk(), 124);
        Due.due("run past the 24th", Due.ran(x, 0), Due.thrown(Due.THROWS_STATE));
        Due.due("the 24th is made", x.ran(), 24);
        for (int place = 0; place <= 23; place++) {
            ProgramGate y = new ProgramGate();
            for (int i = 0; i < place; i++) {
                y.add(Due.MOVE, 0, -1, 0, 0);
            }
            y.add(Due.ADD, 0, 5, 0, 0);
            Due.due("the alarm's place", y.walk(), 300 + place);
        }
    }

    private static void registers() {
        Due.says("There are REGISTERS 0 .. 5");
        for (int r = 0; r <= 5; r++) {
            ProgramGate x = new ProgramGate();
            for (int each = 0; each <= 5; each++) {
                x.add(Due.MOVE, each, -1, 10 + each, 0);
            }
            Due.append(x, Due.register(Due.MOVE, 0, r), Due.end());
            Due.due("register " + r, Due.ran(x, 0), Due.answer(10 + r));
            Due.due("walk", x.walk(), 0);
            Due.due("known of register " + r, x.known(r, 2), 10 + r);
        }
        ProgramGate none = new ProgramGate();
        Due.due("A is 6", none.add(Due.MOVE, 6, -1, 0, 0), ProgramGate.NONE);
        Due.due("A is -1", none.add(Due.MOVE, -1, -1, 0, 0), ProgramGate.NONE);
        Due.due("B is 6", none.add(Due.MOVE, 0, 6, 0, 0), ProgramGate.NONE);
        Due.due("B is -2", none.add(Due.MOVE, 0, -2, 0, 0), ProgramGate.NONE);
    }

    private static void places() {
        Due.says("a STACK of four places 0 .. 3 for numbers");
        int[] numbers = {7, -1, MIN, MAX};
        for (int place = 0; place <= 3; place++) {
            ProgramGate x = new ProgramGate();
            for (int each = 0; each <= 3; each++) {
                Due.append(x, Due.number(Due.MOVE, 3, numbers[each]), Due.number(Due.PUT, 3, each));
            }
            Due.append(x, Due.number(Due.GET, 0, place), Due.end());
            Due.due("walk", x.walk(), 0);
            Due.due("place " + place, Due.ran(x, 0), Due.answer(numbers[place]));
        }
        for (int op = Due.GET; op <= Due.PUT; op++) {
            for (int place : new int[] {4, -1}) {
                ProgramGate x = Due.gate(Due.number(op, 1, place), Due.end());
                Due.due("walk to place " + place, x.walk(), 500);
                Due.due("run to place " + place, Due.ran(x, 0), Due.thrown(Due.THROWS_INDEX));
            }
        }
    }

    private static void bytes() {
        Due.says("a PACKET of at most 16 bytes");
        ProgramGate x = Due.gate(Due.whole(Due.LOAD, 0, 2, 0, 1), Due.end());
        Due.due("packet of 16", x.packet(0, 0xAB00000000000000L, 16), true);
        Due.due("packet of 17", x.packet(0, 0, 17), false);
        Due.due("byte 15", Due.ran(x, 15), Due.answer(0xAB));
        Due.due("byte 16", Due.ran(x, 16), Due.thrown(Due.THROWS_INDEX));
    }

    private static void numberOrRegister() {
        Due.says("Y is what B has, N if B is -1.");
        for (int b = 0; b <= 5; b++) {
            ProgramGate x = Due.gate(Due.number(Due.MOVE, b, 40 + b), Due.whole(Due.MOVE, 0, b, 77, 0), Due.end());
            Due.due("Y is register " + b, Due.ran(x, 0), Due.answer(40 + b));
            x.walk();
            Due.due("known of it", x.known(0, 2), 40 + b);
        }
        for (int n : new int[] {0, 1, -1, MIN, MAX}) {
            ProgramGate x = Due.gate(Due.whole(Due.MOVE, 0, -1, n, 0), Due.end());
            Due.due("Y is " + n, Due.ran(x, 0), Due.answer(n));
            x.walk();
            Due.due("known of it", Due.row(x, 0), Told.exactly(n));
        }
        // N is 0 there, and no divisor; N is 4 there, and no place; N is 0 there, and unlike 3.
        int[] zero = Due.number(Due.MOVE, 0, 0);
        int[] three = Due.number(Due.MOVE, 3, 3);
        Due.walks("a divisor", 0, 4, zero, three, Due.whole(Due.DIVIDE, 0, 3, 0, 0), Due.end());
        Due.walks("a place", 0, 4, zero, three, Due.whole(Due.PUT, 0, 3, 4, 0), Due.end());
        Due.walks("a relation", 0, 5, zero, three, Due.number(Due.MOVE, 4, 3), Due.whole(Due.EQUAL, 3, 4, 0, 1),
            Due.register(Due.ADD, 5, 5), Due.end());
    }

    private static void notLookedAt() {
        Due.says("(What it needn't have is not looked at.)");
        int[] zero = Due.number(Due.MOVE, 0, 0);
        for (int any : new int[] {MIN, -1, 0, 24, MAX}) {
            Due.walks("GO", 0, 3, zero, Due.whole(Due.GO, 5, 4, any, 1), Due.register(Due.ADD, 5, 5), Due.end());
            Due.walks("END", 0, 2, zero, Due.whole(Due.END, 5, 4, any, any));
            for (int op = Due.MOVE; op <= Due.PUT; op++) {
                ProgramGate x = Due.gate(Due.number(Due.MOVE, 3, 1), Due.whole(op, 0, 3, any, any), Due.end());
                Due.due("op " + op + " leads to 2", Due.ran(x, 0).startsWith("answer"), true);
                Due.due("ran", x.ran(), 3);
            }
        }
        Due.walks("A of LOAD", 104, 4, Due.whole(Due.BEYOND, 5, 1, 4, 3), Due.whole(Due.LOAD, 0, 1, 0, 4), Due.end());
        ProgramGate beyond = Due.gate(Due.number(Due.MOVE, 0, 9), Due.whole(Due.BEYOND, 0, 1, 0, 1), Due.end(),
            Due.end());
        Due.due("A of BEYOND stays", Due.ran(beyond, 0), Due.answer(9));
    }

    /** The operation on two numbers, run and walked; Y once N, once what B has. */
    private static void operation(int op, int x, int y, int want) {
        String call = "op " + op + " of " + x + " and " + y;
        ProgramGate byNumber = Due.gate(Due.number(Due.MOVE, 0, x), Due.number(op, 0, y), Due.end());
        Due.due(call, Due.ran(byNumber, 0), Due.answer(want));
        ProgramGate byRegister = Due.gate(Due.number(Due.MOVE, 0, x), Due.number(Due.MOVE, 3, y),
            Due.register(op, 0, 3), Due.end());
        Due.due(call + " by register", Due.ran(byRegister, 0), Due.answer(want));
        ProgramGate leavesB = Due.gate(Due.number(Due.MOVE, 0, x), Due.number(Due.MOVE, 3, y),
            Due.register(op, 0, 3), Due.register(Due.MOVE, 0, 3), Due.end());
        Due.due(call + " leaves B", Due.ran(leavesB, 0), Due.answer(y));
        // Of REST the walk knows a range only.
        if (op != Due.REST) {
            byNumber.walk();
            Due.due("known of " + call, Due.row(byNumber, 0), Told.exactly(want));
        }
    }

    private static void moves() {
        Due.says("0 MOVE: A becomes Y.");
        operation(Due.MOVE, 5, MIN, MIN);
        operation(Due.MOVE, 5, 0, 0);
    }

    private static void wraps() {
        Due.says("1 ADD, 2 SUBTRACT, 3 MULTIPLY, 4 AND, 5 OR, 6 XOR: A becomes A and Y together, wrapping.");
        operation(Due.ADD, MAX, 0, MAX);
        operation(Due.ADD, MAX, 1, MIN);
        operation(Due.ADD, -1, 1, 0);
        operation(Due.ADD, MIN, -1, MAX);
        operation(Due.ADD, MIN, MIN, 0);
        operation(Due.SUBTRACT, MIN, 0, MIN);
        operation(Due.SUBTRACT, MIN, 1, MAX);
        operation(Due.SUBTRACT, 0, 1, -1);
        operation(Due.SUBTRACT, 0, MIN, MIN);
        operation(Due.SUBTRACT, MAX, -1, MIN);
        operation(Due.MULTIPLY, 46341, 46341, -2147479015);
        operation(Due.MULTIPLY, 65535, 65537, -1);
        operation(Due.MULTIPLY, 65536, 65536, 0);
        operation(Due.MULTIPLY, MIN, -1, MIN);
        operation(Due.MULTIPLY, -1, -1, 1);
        operation(Due.MULTIPLY, MAX, MAX, 1);
    }

    private static void bitByBit() {
        Due.says("4 AND, 5 OR, 6 XOR: A becomes A and Y together");
        operation(Due.AND, 0xF0F0F0F0, 0xFF00FF00, 0xF000F000);
        operation(Due.OR, 0xF0F0F0F0, 0xFF00FF00, 0xFFF0FFF0);
        operation(Due.XOR, 0xF0F0F0F0, 0xFF00FF00, 0x0FF00FF0);
        operation(Due.AND, MIN, -1, MIN);
        operation(Due.OR, MIN, MAX, -1);
        operation(Due.XOR, -1, -1, 0);
    }

    private static void shiftedByFiveBits() {
        Due.says("A is shifted by the lowest five bits of Y.");
        int[] numbers = {0, 1, 31, 32, 33, 63, 64, -1, -31, -32, MIN, MAX};
        int[] fiveBits = {0, 1, 31, 0, 1, 31, 0, 31, 1, 0, 0, 31};
        for (int k = 0; k < numbers.length; k++) {
            int by = fiveBits[k];
            operation(Due.LEFT, 3, numbers[k], by == 0 ? 3 : by == 1 ? 6 : MIN);
            operation(Due.RIGHT, -2, numbers[k], by == 0 ? -2 : by == 1 ? MAX : 1);
            operation(Due.RIGHT_SIGNED, -6, numbers[k], by == 0 ? -6 : by == 1 ? -3 : -1);
        }
    }

    private static void zerosComeIn() {
        Due.says("8 RIGHT (zeros come in from above)");
        operation(Due.RIGHT, -1, 1, MAX);
        operation(Due.RIGHT, -1, 28, 15);
        operation(Due.RIGHT, MIN, 31, 1);
        operation(Due.RIGHT, MAX, 30, 1);
    }

    private static void highestBitComesIn() {
        Due.says("9 RIGHT SIGNED (the highest bit comes in)");
        operation(Due.RIGHT_SIGNED, -1, 1, -1);
        operation(Due.RIGHT_SIGNED, MIN, 31, -1);
        operation(Due.RIGHT_SIGNED, MIN, 1, 0xC0000000);
        operation(Due.RIGHT_SIGNED, MAX, 30, 1);
        operation(Due.RIGHT_SIGNED, MAX, 31, 0);
    }

    private static void dividesUnsigned() {
        Due.says("10 DIVIDE, 11 REST: A unsigned by Y unsigned, rounded down; what is left.");
        operation(Due.DIVIDE, 0, 1, 0);
        operation(Due.DIVIDE, 9, 5, 1);
        operation(Due.DIVIDE, 10, 5, 2);
        operation(Due.DIVIDE, -1, 2, MAX);
        operation(Due.DIVIDE, -2, -1, 0);
        operation(Due.DIVIDE, -1, -1, 1);
        operation(Due.DIVIDE, MIN, -1, 0);
        operation(Due.DIVIDE, MIN, MAX, 1);
        operation(Due.DIVIDE, -1, 1, -1);
        operation(Due.REST, 9, 5, 4);
        operation(Due.REST, 10, 5, 0);
        operation(Due.REST, -1, 2, 1);
        operation(Due.REST, -2, -1, -2);
        operation(Due.REST, -1, -1, 0);
        operation(Due.REST, MIN, -1, MIN);
        operation(Due.REST, MIN, MAX, 1);
        operation(Due.REST, -1, 1, 0);
    }

    private static void getsAndPuts() {
        Due.says("12 GET: A becomes what lies at place Y of the stack. 13 PUT: A's number is put to place Y of"
            + " the stack.");
        ProgramGate x = Due.gate(Due.number(Due.MOVE, 3, 3), Due.register(Due.PUT, 3, 3), Due.number(Due.MOVE, 0, 8),
            Due.whole(Due.GET, 0, 3, 1, 0), Due.end());
        Due.due("what was put", Due.ran(x, 0), Due.answer(3));
        ProgramGate itself = Due.gate(Due.number(Due.MOVE, 0, 3), Due.number(Due.MOVE, 3, 9), Due.number(Due.PUT, 3, 3),
            Due.register(Due.GET, 0, 0), Due.end());
        Due.due("A is its own place", Due.ran(itself, 0), Due.answer(9));
        itself.walk();
        Due.due("known of it", itself.known(0, 2), 9);
    }

    private static ProgramGate loader(int n, int howMany) {
        return Due.gate(Due.number(Due.MOVE, 0, -1), Due.whole(Due.LOAD, 0, 2, n, howMany), Due.end());
    }

    private static void loadsBytes() {
        Due.says("14 LOAD: A becomes OFFSET bytes (1, 2 or 4) of the packet from place B + N on (B unsigned; N"
            + " from 0 to 16), the first one lowest, zeros above.");
        int[] howMany = {1, 2, 4};
        int[] want = {0x80, 0xFF80, 0x01FEFF80};
        for (int k = 0; k < 3; k++) {
            for (int n = 0; n <= 12; n++) {
                ProgramGate x = loader(n, howMany[k]);
                // The bytes 80, ff, fe, 01 come in at 12, behind zeros.
                x.packet(0, 0x01FEFF8000000000L, 16);
                Due.due(howMany[k] + " bytes from " + (12 - n) + " + " + n, Due.ran(x, 12 - n), Due.answer(want[k]));
            }
        }
        ProgramGate whole = loader(0, 4);
        whole.packet(0x00000000FFFFFFFFL, 0, 8);
        Due.due("four bytes that are 255", Due.ran(whole, 0), Due.answer(-1));
        Due.due("two of them", Due.ran(whole, 2), Due.answer(65535));
        for (int n : new int[] {-1, 17}) {
            Due.due("N is " + n, whole.add(Due.LOAD, 0, 2, n, 1), ProgramGate.NONE);
        }
    }

    private static void loadsAtThePacketsEnd() {
        Due.says("IndexOutOfBoundsException: the stack has no such place, or the packet no such byte.");
        for (int length = 0; length <= 16; length++) {
            for (int howMany : new int[] {1, 2, 4}) {
                for (int n = 0; n <= 16; n++) {
                    ProgramGate x = loader(n, howMany);
                    x.packet(0, 0, length);
                    for (int b = 0; b <= 17; b++) {
                        boolean fits = b + n + howMany <= length;
                        Due.due(howMany + " bytes from " + b + " + " + n + " of " + length, Due.ran(x, b),
                            fits ? Due.answer(0) : Due.thrown(Due.THROWS_INDEX));
                    }
                    for (int b : new int[] {-1, -n, -16, MIN, MAX}) {
                        boolean fits = b == 0 && n + howMany <= length;
                        Due.due(howMany + " bytes from " + b + " unsigned + " + n, Due.ran(x, b),
                            fits ? Due.answer(0) : Due.thrown(Due.THROWS_INDEX));
                    }
                }
            }
        }
    }

    private static void goesBeyondThePacketsEnd() {
        Due.says("15 BEYOND: it goes by OFFSET if B + N (B unsigned; N from 0 to 16) is more than the packet's"
            + " length.");
        for (int length = 0; length <= 16; length++) {
            for (int n = 0; n <= 16; n++) {
                ProgramGate x = Due.gate(Due.whole(Due.BEYOND, 0, 2, n, 1), Due.end(), Due.number(Due.MOVE, 0, 1),
                    Due.end());
                x.packet(0, 0, length);
                for (int b = 0; b <= 17; b++) {
                    Due.due(b + " + " + n + " of " + length, Due.ran(x, b), Due.answer(b + n > length ? 1 : 0));
                }
                for (int b : new int[] {-1, -16, MIN, MAX}) {
                    Due.due(b + " unsigned + " + n, Due.ran(x, b), Due.answer(1));
                }
            }
        }
        for (int n : new int[] {-1, 17}) {
            Due.due("N is " + n, new ProgramGate().add(Due.BEYOND, 0, 2, n, 1), ProgramGate.NONE);
        }
    }

    private static void relation(int op, int x, int y, boolean holds) {
        ProgramGate gate = Due.gate(Due.whole(op, 2, -1, y, 1), Due.end(), Due.number(Due.MOVE, 0, 1), Due.end());
        Due.due("relation " + op + " of " + x + " and " + y, Due.ran(gate, x), Due.answer(holds ? 1 : 0));
        gate.clear();
        Due.append(gate, Due.number(Due.MOVE, 3, y), Due.whole(op, 2, 3, x, 1), Due.end(), Due.number(Due.MOVE, 0, 1),
            Due.end());
        Due.due("relation " + op + " of " + x + " and " + y + " by register", Due.ran(gate, x),
            Due.answer(holds ? 1 : 0));
    }

    private static void relations() {
        Due.says("16 EQUAL, 17 UNLIKE, 18 LESS, 19 NOT LESS (both unsigned), 20 LESS SIGNED, 21 NOT LESS SIGNED:"
            + " it goes by OFFSET if A and Y are so.");
        // Unsigned, these grow from first to last; signed, the latter three come before the former three.
        int[] grown = {0, 1, MAX, MIN, -2, -1};
        for (int i = 0; i < grown.length; i++) {
            for (int j = 0; j < grown.length; j++) {
                int x = grown[i];
                int y = grown[j];
                boolean lessSigned = (i + 3) % 6 < (j + 3) % 6;
                relation(Due.EQUAL, x, y, i == j);
                relation(Due.UNLIKE, x, y, i != j);
                relation(Due.LESS, x, y, i < j);
                relation(Due.NOT_LESS, x, y, i >= j);
                relation(Due.LESS_SIGNED, x, y, lessSigned);
                relation(Due.NOT_LESS_SIGNED, x, y, !lessSigned);
            }
        }
    }

    private static void goes() {
        Due.says("22 GO: it goes by OFFSET.");
        for (int argument : new int[] {0, 1, -1, MIN, MAX}) {
            ProgramGate x = Due.gate(Due.whole(Due.GO, 2, 2, argument, 1), Due.end(), Due.number(Due.MOVE, 0, 1),
                Due.end());
            Due.due("it goes with " + argument, Due.ran(x, argument), Due.answer(1));
        }
    }

    private static void ends() {
        Due.says("23 END.");
        ProgramGate x = Due.gate(Due.number(Due.MOVE, 0, 4), Due.end(), Due.number(Due.MOVE, 0, 5), Due.end());
        Due.due("the first END", Due.ran(x, 0), Due.answer(4));
        Due.due("ran", x.ran(), 2);
        Due.due("walk", x.walk(), 0);
        Due.due("steps", x.steps(), 2);
    }

    /** A program that is at the instruction at i and whose answer tells where it came from there: each place counts. */
    private static ProgramGate counting(int i, int[] instruction) {
        ProgramGate x = new ProgramGate();
        for (int place = 0; place < 23; place++) {
            Due.append(x, place == i ? instruction : place < i ? Due.number(Due.MOVE, 3, 0) : Due.number(Due.ADD, 0,
                1));
        }
        Due.append(x, i == 23 ? instruction : Due.end());
        return x;
    }

    /** The machine and the walk come from the instruction at i to the place. */
    private static void leads(String what, int i, int[] instruction, int place) {
        ProgramGate x = counting(i, instruction);
        String want = place < 24 ? Due.answer(23 - place) : Due.thrown(Due.THROWS_STATE);
        Due.due(what + " at " + i, Due.ran(x, 0), want);
        Due.due("ran", x.ran(), i + 1 + Math.max(0, 24 - place));
        // Register 0 is unset in the walk, so the alarm tells where it came to.
        Due.due("walk of " + what + " at " + i, x.walk(), (place < 24 ? 300 : 100) + place);
        Due.due("steps", x.steps(), i + 2);
    }

    private static void goingByAnOffset() {
        Due.says("TO GO BY an offset (1 .. 23) from the instruction at i leads to that at i + 1 + offset");
        for (int i = 0; i <= 23; i++) {
            for (int offset = 1; offset <= 23; offset++) {
                leads("GO by " + offset, i, Due.whole(Due.GO, 0, -1, 0, offset), i + 1 + offset);
                if (i > 0) {
                    // Register 3 is 0 from place 0 on.
                    leads("EQUAL, so by " + offset, i, Due.whole(Due.EQUAL, 3, -1, 0, offset), i + 1 + offset);
                    leads("LESS, so by " + offset, i, Due.whole(Due.LESS, 3, -1, 1, offset), i + 1 + offset);
                    leads("LESS SIGNED, so by " + offset, i, Due.whole(Due.LESS_SIGNED, 3, -1, 1, offset),
                        i + 1 + offset);
                    leads("UNLIKE, so by " + offset, i, Due.whole(Due.UNLIKE, 3, -1, 1, offset), i + 1 + offset);
                    leads("NOT LESS, so by " + offset, i, Due.whole(Due.NOT_LESS, 3, -1, 0, offset), i + 1 + offset);
                    leads("NOT LESS SIGNED, so by " + offset, i, Due.whole(Due.NOT_LESS_SIGNED, 3, -1, 0, offset),
                        i + 1 + offset);
                }
            }
        }
        for (int op = Due.BEYOND; op <= Due.GO; op++) {
            Due.due("offset 0", new ProgramGate().add(op, 0, 0, 0, 0), ProgramGate.NONE);
            Due.due("offset 24", new ProgramGate().add(op, 0, 0, 0, 24), ProgramGate.NONE);
        }
        // BEYOND by its offset: the machine goes there, the walk comes there as its second way.
        for (int offset = 1; offset <= 23; offset++) {
            ProgramGate x = counting(0, Due.whole(Due.BEYOND, 0, 1, 1, offset));
            String want = offset < 23 ? Due.answer(22 - offset) : Due.thrown(Due.THROWS_STATE);
            Due.due("BEYOND by " + offset, Due.ran(x, 0), want);
            ProgramGate y = Due.gate(Due.whole(Due.BEYOND, 0, 1, 1, offset), Due.number(Due.MOVE, 0, 0), Due.end());
            Due.due("walk of BEYOND by " + offset, y.walk(), offset == 1 ? 302 : 100 + 1 + offset);
        }
    }

    private static void everythingElse() {
        Due.says("everything else leads to i + 1.");
        for (int i = 1; i <= 23; i++) {
            for (int op = Due.MOVE; op <= Due.PUT; op++) {
                boolean divides = op == Due.DIVIDE || op == Due.REST;
                if (op != Due.GET) {
                    leads("op " + op, i, Due.whole(op, 3, -1, divides ? 1 : 0, 2), i + 1);
                }
            }
            leads("UNLIKE, not so", i, Due.whole(Due.UNLIKE, 3, -1, 0, 2), i + 1);
            leads("EQUAL, not so", i, Due.whole(Due.EQUAL, 3, -1, 1, 2), i + 1);
            leads("LESS, not so", i, Due.whole(Due.LESS, 3, -1, 0, 2), i + 1);
            leads("NOT LESS, not so", i, Due.whole(Due.NOT_LESS, 3, -1, 1, 2), i + 1);
            leads("LESS SIGNED, not so", i, Due.whole(Due.LESS_SIGNED, 3, -1, 0, 2), i + 1);
            leads("NOT LESS SIGNED, not so", i, Due.whole(Due.NOT_LESS_SIGNED, 3, -1, 1, 2), i + 1);
        }
        // GET needs a place that is set, LOAD one byte, BEYOND one that is there.
        Due.walks("GET", 303, 4, Due.number(Due.PUT, 1, 0), Due.number(Due.GET, 3, 0), Due.number(Due.MOVE, 4, 0),
            Due.whole(Due.END, 0, -1, 0, 0));
        Due.walks("LOAD", 302, 3, Due.whole(Due.BEYOND, 0, 1, 4, 23), Due.whole(Due.LOAD, 3, 1, 0, 4), Due.end());
        ProgramGate x = counting(0, Due.whole(Due.BEYOND, 0, 1, 0, 5));
        Due.due("BEYOND, not so", Due.ran(x, 0), Due.answer(22));
        ProgramGate y = counting(0, Due.whole(Due.LOAD, 3, 2, 0, 4));
        y.packet(0, 0, 4);
        Due.due("LOAD of 4", Due.ran(y, 0), Due.answer(22));
    }

    private static void theMachineBegins() {
        Due.says("THE MACHINE begins at 0 with the packet's length in register 1, an argument in register 2, all"
            + " other registers and the stack 0, and ends at END.");
        for (int length : new int[] {0, 1, 8, 9, 16}) {
            ProgramGate x = Due.gate(Due.register(Due.MOVE, 0, 1), Due.end());
            x.packet(-1, -1, length);
            Due.due("register 1", Due.ran(x, 99), Due.answer(length));
        }
        for (int argument : new int[] {0, 1, -1, MIN, MAX}) {
            ProgramGate x = Due.gate(Due.register(Due.MOVE, 0, 2), Due.end());
            Due.due("register 2", Due.ran(x, argument), Due.answer(argument));
        }
        // Each register and place is changed, and begins anew with the next run.
        for (int r : new int[] {0, 3, 4, 5}) {
            ProgramGate x = Due.gate(Due.number(Due.ADD, r, 7), Due.register(Due.MOVE, 0, r), Due.end());
            Due.due("register " + r, Due.ran(x, 99), Due.answer(7));
            Due.due("register " + r + " in the next run", Due.ran(x, 99), Due.answer(7));
        }
        for (int place = 0; place <= 3; place++) {
            ProgramGate x = Due.gate(Due.number(Due.GET, 0, place), Due.number(Due.PUT, 2, place), Due.end());
            Due.due("place " + place, Due.ran(x, 99), Due.answer(0));
            Due.due("place " + place + " in the next run", Due.ran(x, 99), Due.answer(0));
        }
    }

    private static void theMachineAnswers() {
        Due.says("Its ANSWER is what register 0 has then.");
        for (int n : new int[] {0, -1, MIN, MAX}) {
            ProgramGate x = Due.gate(Due.number(Due.MOVE, 0, n), Due.number(Due.MOVE, 1, 5), Due.end());
            Due.due("answer", Due.ran(x, 6), Due.answer(n));
        }
        Due.due("register 0 never changed", Due.ran(Due.gate(Due.end()), 6), Due.answer(0));
    }
}
