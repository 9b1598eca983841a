import java.util.Arrays;
import java.util.List;

/** Compares answers with what is due, and builds programs for the tests. */
final class Due {
    static final long UNTOLD = 1L << 62;
    static final long ALL = 0xFFFFFFFFL;
    static final int THROWS_STATE = 1;
    static final int THROWS_ARITHMETIC = 2;
    static final int THROWS_INDEX = 3;

    static final int MOVE = 0, ADD = 1, SUBTRACT = 2, MULTIPLY = 3, AND = 4, OR = 5, XOR = 6, LEFT = 7;
    static final int RIGHT = 8, RIGHT_SIGNED = 9, DIVIDE = 10, REST = 11, GET = 12, PUT = 13, LOAD = 14;
    static final int BEYOND = 15, EQUAL = 16, UNLIKE = 17, LESS = 18, NOT_LESS = 19, LESS_SIGNED = 20;
    static final int NOT_LESS_SIGNED = 21, GO = 22, END = 23;

    private static int looked = 0;
    private static int wrong = 0;
    private static int sentences = 0;
    private static String sentence = "";

    private Due() {
    }

    /** What is looked at from here on belongs to this sentence of the document. */
    static void says(String words) {
        sentences++;
        sentence = words;
    }

    static void due(String what, long got, long want) {
        look(got == want, what + " answered " + got + ", due is " + want);
    }

    static void due(String what, boolean got, boolean want) {
        due(what, got ? 1L : 0L, want ? 1L : 0L);
    }

    static void due(String what, String got, String want) {
        look(got.equals(want), what + " answered " + got + ", due is " + want);
    }

    private static void look(boolean right, String told) {
        looked++;
        if (!right) {
            wrong++;
            System.out.println((sentence.isEmpty() ? "" : "\"" + sentence + "\": ") + told);
        }
    }

    static void finish() {
        String of = sentences == 0 ? "" : ", of " + sentences + " sentences";
        System.out.println(looked + " answers looked at" + of + ", " + wrong + " of them wrong");
        System.exit(wrong == 0 ? 0 : 1);
    }

    /** An instruction with a number for Y. */
    static int[] number(int op, int a, int n) {
        return new int[] {op, a, -1, n, 0};
    }

    /** An instruction with a register for Y. */
    static int[] register(int op, int a, int b) {
        return new int[] {op, a, b, 0, 0};
    }

    /** An instruction with all its parts. */
    static int[] whole(int op, int a, int b, int n, int offset) {
        return new int[] {op, a, b, n, offset};
    }

    static int[] end() {
        return new int[] {END, 0, -1, 0, 0};
    }

    static ProgramGate gate(int[]... program) {
        ProgramGate gate = new ProgramGate();
        append(gate, program);
        return gate;
    }

    static void append(ProgramGate gate, int[]... program) {
        for (int[] i : program) {
            due("add" + Arrays.toString(i), gate.add(i[0], i[1], i[2], i[3], i[4]), gate.size());
        }
    }

    /** A walk of the program, made twice, since the second must not know of the first. */
    static void walks(String what, int want, int steps, int[]... program) {
        ProgramGate x = gate(program);
        due(what + ": steps before any walk", x.steps(), 0);
        due(what + ": walk", x.walk(), want);
        due(what + ": steps", x.steps(), steps);
        due(what + ": walk again", x.walk(), want);
        due(what + ": steps again", x.steps(), steps);
    }

    /** All that is known of a register: bits, ones, LOW, HIGH, LEAST, MOST, SAFE. */
    static String row(ProgramGate gate, int r) {
        StringBuilder text = new StringBuilder();
        for (int what = 0; what <= 6; what++) {
            text.append(what == 0 ? "" : " ").append(gate.known(r, what));
        }
        return text.toString();
    }

    static String row(long bits, long ones, long low, long high, long least, long most, long safe) {
        return bits + " " + ones + " " + low + " " + high + " " + least + " " + most + " " + safe;
    }

    /** The answer of a run, or which exception it throws. */
    static String ran(ProgramGate gate, int argument) {
        try {
            return answer(gate.run(argument));
        } catch (RuntimeException e) {
            // The very class: an ArrayIndexOutOfBoundsException would be Java's own, not one that is thrown.
            List<Class<?>> classes = List.of(IllegalStateException.class, ArithmeticException.class,
                IndexOutOfBoundsException.class);
            return thrown(1 + classes.indexOf(e.getClass()));
        }
    }

    static String answer(int number) {
        return "answer " + number;
    }

    static String thrown(int kind) {
        return "exception " + kind;
    }
}
