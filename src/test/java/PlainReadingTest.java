import java.util.ArrayList;
import java.util.Arrays;
import java.util.List;
import java.util.Random;

/**
 * All promises over many made-up programs: ProgramGate answers as PlainReading does, what is let in never
 * throws, and what is known holds for what the machine comes to. The seed is fixed, so every run is alike.
 */
public final class PlainReadingTest {
    private static final int PROGRAMS = 60_000;
    private static final int LIVES = 500;
    private static final int CALLS_OF_A_LIFE = 512;
    private static final int[] NUMBERS = {0, 1, 2, 3, 4, 5, 7, 8, 15, 16, 19, 20, 21, 31, 32, 33, 100, 255, 256,
        65535, 65536, -1, -2, -5, -16, Integer.MIN_VALUE, Integer.MIN_VALUE + 1, Integer.MAX_VALUE, 0x55555555};

    private final Random random = new Random(20261115);
    private final int[] alarms = new int[8];
    private int letInByManyWays = 0;

    public static void main(String[] args) {
        new PlainReadingTest().compareAll();
        new PlainReadingTest().compareLives();
        Due.finish();
    }

    private List<int[]> program(int kind) {
        return kind < 3 ? straight() : kind < 5 ? tangled() : kind < 8 ? guarded() : kind < 9 ? stacked() : manyWays();
    }

    private void compareAll() {
        for (int k = 0; k < PROGRAMS; k++) {
            compare(program(k % 10));
        }
        // A generator that never raises some alarm would compare little there.
        for (int alarm = 0; alarm <= 7; alarm++) {
            Due.due("alarm " + alarm + " was met often enough", alarms[alarm] >= 20, true);
        }
        Due.due("programs of many ways were let in", letInByManyWays >= 20, true);
        System.out.println("alarms met: " + Arrays.toString(alarms));
    }

    private void compare(List<int[]> program) {
        ProgramGate gate = new ProgramGate();
        PlainReading plain = new PlainReading();
        StringBuilder name = new StringBuilder();
        for (int[] i : program) {
            name.append(Arrays.toString(i));
            Due.due("add in " + name, gate.add(i[0], i[1], i[2], i[3], i[4]), plain.add(i));
        }
        int walked = gate.walk();
        Due.due("walk of " + name, walked, plain.walk());
        Due.due("steps of " + name, gate.steps(), plain.steps);
        alarms[walked / 100]++;
        letInByManyWays += walked == 0 && gate.steps() > 2 * program.size() ? 1 : 0;
        for (int r = 0; r < 6; r++) {
            for (int what = 0; what <= 6; what++) {
                Due.due("known(" + r + ", " + what + ") of " + name, gate.known(r, what), plain.known(r, what));
            }
        }
        boolean oneWay = walked == 0 && isStraight(program);
        for (int k = 0; k < 4; k++) {
            long low = random.nextLong();
            long high = random.nextLong();
            int n = random.nextInt(17);
            gate.packet(low, high, n);
            plain.packet(low, high, n);
            int argument = number();
            String got = Due.ran(gate, argument);
            Due.due("run(" + argument + ") of " + name, got, plain.run(argument));
            Due.due("ran of " + name, gate.ran(), plain.ran);
            if (walked == 0) {
                Due.due("let in, and it answers: " + name, got.startsWith("answer"), true);
            }
            if (oneWay && got.startsWith("answer")) {
                holds(gate, Integer.parseInt(got.substring(7)), n, name.toString());
            }
        }
    }

    /** One object for all its 512 calls: nothing that an earlier call left over may show in a later one. */
    private void compareLives() {
        for (int k = 0; k < LIVES; k++) {
            ProgramGate gate = new ProgramGate();
            PlainReading plain = new PlainReading();
            List<int[]> coming = new ArrayList<>();
            for (int call = 1; call <= CALLS_OF_A_LIFE; call++) {
                String name = "life " + k + ", call " + call + ": ";
                if (!coming.isEmpty() && random.nextInt(8) > 0) {
                    compareAdd(name, gate, plain, coming.remove(0));
                } else {
                    compareCall(name, gate, plain, coming);
                }
            }
        }
    }

    private static void compareAdd(String name, ProgramGate gate, PlainReading plain, int[] i) {
        int want = plain.size() == 24 ? ProgramGate.NONE : plain.add(i);
        Due.due(name + "add" + Arrays.toString(i), gate.add(i[0], i[1], i[2], i[3], i[4]), want);
    }

    private void compareCall(String name, ProgramGate gate, PlainReading plain, List<int[]> coming) {
        int r = random.nextInt(8) - 1;
        int what = random.nextInt(9) - 1;
        int argument = number();
        int kind = random.nextInt(24);
        if (kind == 0) {
            Due.due(name + "clear", gate.clear(), plain.clear());
            coming.addAll(program(random.nextInt(10)));
        } else if (kind == 1) {
            // What comes then stands behind a program already, or is too much for it.
            Due.due(name + "add of no op", gate.add(Due.END + 1, 0, 0, 0, 0), ProgramGate.NONE);
            coming.addAll(program(random.nextInt(10)));
        } else if (kind == 2) {
            comparePacket(name, gate, plain);
        } else if (kind == 3) {
            Due.due(name + "size", gate.size(), plain.size());
        } else if (kind < 7) {
            Due.due(name + "walk", gate.walk(), plain.walk());
        } else if (kind < 9) {
            Due.due(name + "steps", gate.steps(), plain.steps);
        } else if (kind < 13) {
            Due.due(name + "run(" + argument + ")", Due.ran(gate, argument), plain.run(argument));
        } else if (kind < 15) {
            Due.due(name + "ran", gate.ran(), plain.ran);
        } else {
            Due.due(name + "known(" + r + ", " + what + ")", gate.known(r, what), plain.known(r, what));
        }
    }

    private void comparePacket(String name, ProgramGate gate, PlainReading plain) {
        long low = random.nextLong();
        long high = random.nextLong();
        int n = random.nextInt(19) - 1;
        boolean taken = n >= 0 && n <= 16;
        if (taken) {
            plain.packet(low, high, n);
        }
        Due.due(name + "packet of " + n, gate.packet(low, high, n), taken);
    }

    private static void holds(ProgramGate gate, int x, int length, String name) {
        long unsigned = x & Due.ALL;
        Due.due("the bits hold in " + name, unsigned & gate.known(0, 0), gate.known(0, 1));
        Due.due("LOW and HIGH hold in " + name,
            unsigned >= gate.known(0, 2) && unsigned <= gate.known(0, 3), true);
        Due.due("LEAST and MOST hold in " + name, x >= gate.known(0, 4) && x <= gate.known(0, 5), true);
        long safe = gate.known(0, 6);
        Due.due("SAFE holds in " + name, safe == 0 || unsigned + safe <= length, true);
    }

    private static boolean isStraight(List<int[]> program) {
        for (int[] i : program) {
            if (i[0] >= Due.BEYOND && i[0] <= Due.GO) {
                return false;
            }
        }
        return true;
    }

    private int number() {
        switch (random.nextInt(4)) {
            case 0: return random.nextInt();
            case 1: return random.nextInt(24);
            case 2: return 1 << random.nextInt(32);
            default: return NUMBERS[random.nextInt(NUMBERS.length)];
        }
    }

    private int[] operation(int op) {
        int b = random.nextInt(9) - 3;
        return new int[] {op, random.nextInt(6), Math.max(b, -1), number(), random.nextInt(3)};
    }

    private int[] stackInstruction() {
        int b = random.nextInt(3) > 0 ? -1 : random.nextInt(6);
        return new int[] {random.nextBoolean() ? Due.GET : Due.PUT, random.nextInt(6), b, random.nextInt(5), 0};
    }

    private int[] packetInstruction(int op, int room) {
        int offset = op == Due.LOAD ? 1 << random.nextInt(3) : 1 + random.nextInt(room);
        return new int[] {op, random.nextInt(6), random.nextInt(6), random.nextInt(17), offset};
    }

    private int[] branch(int op, int room) {
        int b = random.nextInt(9) - 3;
        return new int[] {op, random.nextInt(6), Math.max(b, -1), number(), 1 + random.nextInt(room)};
    }

    private static final int[] TOPS = {1, 3, 7, 255, 65535};

    /** Sets registers to various things, so that what follows seldom reads an unset one. */
    private List<int[]> preface() {
        List<int[]> program = new ArrayList<>();
        for (int r : new int[] {0, 3, 4, 5}) {
            if (random.nextInt(12) > 0) {
                int[] sources = {-1, -1, 1, 2, 2};
                program.add(new int[] {Due.MOVE, r, sources[random.nextInt(5)], number(), 0});
            }
        }
        if (random.nextBoolean()) {
            program.add(Due.number(Due.AND, random.nextInt(6), TOPS[random.nextInt(TOPS.length)]));
        }
        if (random.nextBoolean()) {
            for (int p = 0; p < 4; p++) {
                program.add(Due.number(Due.PUT, random.nextInt(6), p));
            }
        }
        return program;
    }

    private List<int[]> straight() {
        List<int[]> program = preface();
        for (int left = random.nextInt(8); left > 0; left--) {
            program.add(random.nextInt(6) == 0 ? stackInstruction() : operation(random.nextInt(12)));
        }
        program.add(Due.register(Due.MOVE, 0, random.nextInt(6)));
        program.add(Due.end());
        return program;
    }

    private List<int[]> tangled() {
        List<int[]> program = preface();
        int size = program.size() + 1 + random.nextInt(23 - program.size());
        while (program.size() < size) {
            int room = Math.max(1, Math.min(6, size - program.size()));
            int kind = random.nextInt(10);
            if (kind < 4) {
                program.add(branch(Due.EQUAL + random.nextInt(7 - random.nextInt(2)), room));
            } else if (kind < 7) {
                program.add(operation(random.nextInt(12)));
            } else if (kind < 8) {
                program.add(stackInstruction());
            } else if (kind < 9) {
                program.add(packetInstruction(Due.BEYOND, room));
            } else {
                program.add(random.nextInt(4) == 0 ? Due.end() : operation(Due.MOVE));
            }
        }
        program.add(Due.end());
        return program;
    }

    /** Puts and gets at places that are known only as a range, on two ways. */
    private List<int[]> stacked() {
        List<int[]> program = preface();
        program.add(Due.register(Due.MOVE, 3, 2));
        program.add(Due.number(Due.AND, 3, 1 + random.nextInt(3)));
        program.add(Due.number(Due.ADD, 3, random.nextInt(2)));
        program.add(new int[] {Due.BEYOND, 0, 1 + random.nextInt(3), random.nextInt(9), 2 + random.nextInt(3)});
        for (int left = 4 + random.nextInt(6); left > 0; left--) {
            int op = random.nextBoolean() ? Due.PUT : Due.GET;
            int a = random.nextInt(6) == 0 ? 3 : new int[] {0, 1, 2, 4, 5}[random.nextInt(5)];
            program.add(new int[] {op, a, random.nextBoolean() ? 3 : -1, random.nextInt(4), 0});
        }
        program.add(Due.end());
        return program;
    }

    /** Many ways, so that the walk is long, and often too long. */
    private List<int[]> manyWays() {
        List<int[]> program = new ArrayList<>();
        for (int r : new int[] {0, 3}) {
            program.add(Due.register(Due.MOVE, r, 1 + random.nextInt(2)));
        }
        for (int pairs = 4 + random.nextInt(5); pairs > 0; pairs--) {
            boolean byLength = random.nextInt(3) == 0;
            int n = random.nextInt(17);
            program.add(new int[] {byLength ? Due.BEYOND : Due.EQUAL + random.nextInt(6), random.nextInt(4),
                byLength ? random.nextInt(4) : -1, n, 1 + random.nextInt(2)});
            program.add(Due.number(Due.ADD + random.nextInt(6), random.nextInt(4), number()));
        }
        program.add(Due.end());
        program.add(Due.end());
        return program;
    }

    /** Looks how long the packet is, moves about in it a little, and loads. */
    private List<int[]> guarded() {
        List<int[]> program = preface();
        int r = random.nextInt(6);
        program.add(new int[] {Due.BEYOND, 0, r, random.nextInt(17), 1 + random.nextInt(4)});
        for (int left = random.nextInt(6); left > 0; left--) {
            int kind = random.nextInt(6);
            if (kind == 0) {
                program.add(Due.number(Due.ADD, r, random.nextInt(23)));
            } else if (kind == 1) {
                program.add(new int[] {Due.LOAD, random.nextInt(6), r, random.nextInt(6), 1 << random.nextInt(3)});
            } else if (kind == 2) {
                program.add(packetInstruction(Due.LOAD, 1));
            } else if (kind == 3) {
                program.add(branch(Due.EQUAL + random.nextInt(6), 2));
            } else if (kind == 4) {
                program.add(stackInstruction());
            } else {
                program.add(Due.register(Due.MOVE, random.nextInt(6), r));
            }
        }
        program.add(Due.end());
        program.add(Due.end());
        program.add(Due.end());
        return program;
    }
}
