import java.util.Arrays;

/** What the walk knows of a register, for the tests. */
final class Told {
    static final long ALL = Due.ALL;
    static final long MIN = Integer.MIN_VALUE;
    static final long MAX = Integer.MAX_VALUE;
    static final long HALF = 1L << 31;
    static final String NOTHING = Due.row(0, 0, 0, ALL, MIN, MAX, 0);
    static final String LENGTH = upTo(0xFFFFFFE0L, 0, 16);

    private Told() {
    }

    /** A row whose bounds are alike signed and unsigned, and that has no known ones. */
    static String upTo(long bits, long low, long high) {
        return Due.row(bits, 0, low, high, low, high, 0);
    }

    /** A row of which no bit is known. */
    static String between(long low, long high, long least, long most) {
        return Due.row(0, 0, low, high, least, most, 0);
    }

    /** The row of a number that is known wholly. */
    static String exactly(int n) {
        return Due.row(ALL, n & ALL, n & ALL, n & ALL, n, n, 0);
    }

    static int[][] startedAndEnded(int[]... program) {
        int[][] all = new int[program.length + 2][];
        all[0] = Due.number(Due.MOVE, 0, 0);
        System.arraycopy(program, 0, all, 1, program.length);
        all[all.length - 1] = Due.end();
        return all;
    }

    /** The instructions with others behind them. */
    static int[][] joined(int[][] before, int[]... more) {
        int[][] all = Arrays.copyOf(before, before.length + more.length);
        System.arraycopy(more, 0, all, before.length, more.length);
        return all;
    }

    /** What is known of r after the instructions; a way that goes by 23 is not told of. */
    static void after(int r, String want, int[]... program) {
        ProgramGate x = Due.gate(startedAndEnded(program));
        x.walk();
        Due.due("known of " + r + " after " + Arrays.deepToString(program), Due.row(x, r), want);
    }

    /** What is known of r on the way where the relation holds, once as the way that goes,
        once as the one that does not. */
    static void where(int relation, int a, int b, int n, int r, String want, int[]... before) {
        after(r, want, joined(before, Due.whole(relation, a, b, n, 1), Due.end()));
        after(r, want, joined(before, Due.whole(relation ^ 1, a, b, n, 23)));
    }

    /**
     * Whether the way where the relation holds is walked, once as the way that goes, once as the one that does not:
     * it comes to an alarm at once, since register 5 is unset. In what stands before, ways may go by 23.
     */
    static void walked(boolean want, int relation, int a, int b, int n, int[]... before) {
        int[] alarming = Due.register(Due.ADD, 5, 5);
        int[][] goes = joined(before, Due.whole(relation, a, b, n, 1), Due.end(), alarming);
        int[][] stays = joined(before, Due.whole(relation ^ 1, a, b, n, 1), alarming);
        String name = " after " + Arrays.deepToString(goes);
        Due.due("the way that goes is walked" + name, Due.gate(startedAndEnded(goes)).walk() / 100 == 3, want);
        Due.due("the way that does not go is walked" + name, Due.gate(startedAndEnded(stays)).walk() / 100 == 3, want);
    }
}
