import java.util.ArrayList;
import java.util.Arrays;
import java.util.List;

/** The edges that 'Terms' names in THE WALK, sentence by sentence. */
public final class WalkEdgeTest {
    private static final long ALL = Told.ALL;
    private static final long HALF = Told.HALF;
    private static final int MIN = Integer.MIN_VALUE;
    private static final int MAX = Integer.MAX_VALUE;
    private static final int[] ZERO = Due.number(Due.MOVE, 0, 0);
    private static final int[] ALARMING = Due.register(Due.ADD, 5, 5);

    public static void main(String[] args) {
        begins();
        steps();
        alarmOfNone();
        alarmOfThe301st();
        alarmOfUnsetRegisters();
        alarmOfDivisors();
        alarmOfPlaces();
        alarmOfUnsetPlaces();
        alarmOfBytes();
        firstAlarmThatHolds();
        gets();
        puts();
        loads();
        beyond();
        equal();
        less();
        notLess();
        lessSigned();
        whatWasKnownBefore();
        oneOfTheTwoImpossible();
        alikeAndExact();
        oneRegister();
        notGoingFirst();
        overAtTheEnd();
        Due.finish();
    }

    private static void begins() {
        Due.says("THE WALK begins at 0; known is: register 1: LOW and LEAST 0, HIGH and MOST 16, tightened;"
            + " register 2: nothing; the other registers and the places are UNSET.");
        Told.after(1, Due.row(0xFFFFFFE0L, 0, 0, 16, 0, 16, 0));
        Told.after(2, Told.NOTHING);
        for (int r : new int[] {0, 3, 4, 5}) {
            Due.walks("register " + r, 300, 1, Due.register(Due.MOVE, 0, r), Due.end());
        }
        for (int place = 0; place <= 3; place++) {
            Due.walks("place " + place, 600, 1, Due.number(Due.GET, 0, place), Due.end());
        }
        // So it is after a walk that set them all.
        ProgramGate again = new ProgramGate();
        for (int r = 0; r <= 5; r++) {
            Due.append(again, Due.number(Due.MOVE, r, 0));
        }
        for (int place = 0; place <= 3; place++) {
            Due.append(again, Due.number(Due.PUT, 0, place));
        }
        Due.append(again, Due.end());
        Due.due("walk", again.walk(), 0);
        for (int r : new int[] {0, 3, 4, 5}) {
            again.clear();
            Due.append(again, Due.register(Due.MOVE, 1, r));
            Due.due("register " + r + " after another walk", again.walk(), 300);
        }
        for (int place = 0; place <= 3; place++) {
            again.clear();
            Due.append(again, Due.number(Due.GET, 1, place));
            Due.due("place " + place + " after another walk", again.walk(), 600);
        }
        again.clear();
        Due.append(again, ZERO, Due.end());
        again.walk();
        Due.due("register 1 after another walk", Due.row(again, 1), Told.LENGTH);
        Due.due("register 2 after another walk", Due.row(again, 2), Told.NOTHING);
        // The packet at hand is of no matter.
        ProgramGate x = Due.gate(ZERO, Due.end());
        x.packet(0, 0, 3);
        x.walk();
        Due.due("the length with a packet of 3", Due.row(x, 1), Told.LENGTH);
    }

    private static void steps() {
        Due.says("to come to one (or to none, at the end) is a STEP.");
        Due.walks("to none at once", 100, 1);
        Due.walks("to one, then to none", 101, 2, ZERO);
        Due.walks("to two", 0, 2, ZERO, Due.end());
        Due.walks("to two and two by two ways", 0, 4, ZERO, Due.whole(Due.BEYOND, 0, 1, 0, 1), Due.end(), Due.end());
        Due.walks("twice to the same", 0, 7, ZERO, Due.whole(Due.BEYOND, 0, 1, 0, 1), ZERO, ZERO, Due.end());
    }

    private static void alarmOfNone() {
        Due.says("1 there is none (the program's end is passed)");
        for (int count = 0; count <= 24; count++) {
            int[][] program = new int[count][];
            Arrays.fill(program, ZERO);
            Due.walks(count + " without END", 100 + count, count + 1, program);
            if (count > 0) {
                program[count - 1] = Due.end();
                Due.walks(count + " with END", count == 1 ? 300 : 0, count, program);
            }
        }
        Due.walks("just behind the end", 102, 2, Due.whole(Due.GO, 0, -1, 0, 1), Due.end());
        Due.walks("far behind the end", 124, 2, Due.whole(Due.GO, 0, -1, 0, 23), Due.end());
    }

    /**
     * At its start a way goes by, and is walked last; before it comes to the instruction, so many steps have been
     * made. The instruction stands behind all others.
     */
    private static int[][] late(int made, int[]... instruction) {
        // Five forks that come together again make 286 steps, a MOVE before the i-th of them 2^i more.
        List<int[]> program = new ArrayList<>();
        int more = made - 1 - 286;
        for (int i = 0; i < 5; i++) {
            if ((more >> i & 1) == 1) {
                program.add(ZERO);
            }
            program.add(Due.whole(Due.BEYOND, 0, 1, 0, 1));
            program.add(ZERO);
        }
        for (int k = 0; k < 6; k++) {
            program.add(ZERO);
        }
        program.add(Due.end());
        program.add(0, Due.whole(Due.BEYOND, 0, 1, 0, program.size()));
        program.addAll(List.of(instruction));
        return program.toArray(new int[0][]);
    }

    /** The instruction raises the alarm as the 300th step; as the 301st it raises the other one. */
    private static void asThe301st(String what, int alarm, int other, int[]... instruction) {
        int[][] before = late(299);
        Due.walks(what + " as the 300th step", 100 * alarm + before.length, 300, late(299, instruction));
        before = late(300);
        Due.walks(what + " as the 301st step", 100 * other + before.length, 301, late(300, instruction));
    }

    private static void alarmOfThe301st() {
        Due.says("2 it is the 301st step");
        int last = late(299).length;
        Due.walks("END as the 300th step", 0, 300, late(298, ZERO, Due.end()));
        Due.walks("END as the 301st step", 200 + last + 1, 301, late(299, ZERO, Due.end()));
        Due.walks("a MOVE as the 301st step", 200 + late(300).length, 301, late(300, ZERO, Due.end()));
    }

    private static void alarmOfUnsetRegisters() {
        Due.says("3 a register that is read (A but by MOVE, GET and LOAD; B) is unset");
        for (int op = Due.MOVE; op <= Due.NOT_LESS_SIGNED; op++) {
            int offset = op >= Due.LOAD ? 1 : 0;
            boolean readsA = op != Due.MOVE && op != Due.GET && op != Due.LOAD && op != Due.BEYOND;
            boolean mayHaveNoB = op != Due.LOAD && op != Due.BEYOND;
            // Register 3 is 1, safe for one byte, and place 1 is set: nothing else can be wrong.
            int[][] before = {ZERO, Due.number(Due.MOVE, 3, 1), Due.number(Due.PUT, 3, 1),
                Due.whole(Due.BEYOND, 0, 3, 1, 8)};
            Due.due("A is unset, op " + op, alarm(before, Due.whole(op, 4, 3, 0, offset)), readsA ? 304 : 0);
            Due.due("B is unset, op " + op, alarm(before, Due.whole(op, 3, 4, 0, offset)), 304);
            Due.due("both are unset, op " + op, alarm(before, Due.whole(op, 4, 5, 0, offset)), 304);
            Due.due("both are set, op " + op, alarm(before, Due.whole(op, 3, 3, 0, offset)), 0);
            if (mayHaveNoB) {
                Due.due("A is unset and there is no B, op " + op, alarm(before, Due.whole(op, 4, -1, 1, offset)),
                    readsA ? 304 : 0);
                Due.due("there is no B, op " + op, alarm(before, Due.whole(op, 3, -1, 1, offset)), 0);
            }
        }
        Due.walks("GO reads none", 0, 3, ZERO, Due.whole(Due.GO, 4, 5, 0, 1), ALARMING, Due.end());
        Due.walks("END reads register 0 alone", 0, 2, ZERO, Due.whole(Due.END, 4, 5, 0, 0));
    }

    /** The walk's answer with an instruction behind others, all ways ending behind it. */
    private static int alarm(int[][] before, int[] instruction) {
        int[][] ends = new int[8][];
        Arrays.fill(ends, Due.end());
        return Due.gate(Told.joined(Told.joined(before, instruction), ends)).walk();
    }

    private static void alarmOfDivisors() {
        Due.says("4 DIVIDE or REST, and b's LOW is 0");
        for (int op = Due.DIVIDE; op <= Due.REST; op++) {
            int[] byLength = Due.register(op, 0, 1);
            Due.walks("by the number 0", 401, 2, ZERO, Due.number(op, 0, 0), Due.end());
            Due.walks("by the number 1", 0, 3, ZERO, Due.number(op, 0, 1), Due.end());
            Due.walks("by the number -1", 0, 3, ZERO, Due.number(op, 0, -1), Due.end());
            Due.walks("by 0 .. 16", 401, 2, ZERO, byLength, Due.end());
            Due.walks("by 1 .. 17", 0, 4, ZERO, Due.number(Due.ADD, 1, 1), byLength, Due.end());
            Due.walks("not less than 1", 125, 5, ZERO, Due.whole(Due.LESS, 1, -1, 1, 23), byLength, Due.end());
            Due.walks("unlike 0, but LOW is 0", 402, 3, ZERO, Due.whole(Due.EQUAL, 1, -1, 0, 23), byLength, Due.end());
            Due.walks("not less signed than 1", 125, 5, ZERO, Due.whole(Due.LESS_SIGNED, 2, -1, 1, 23),
                Due.register(op, 0, 2), Due.end());
            Due.walks("not less signed than 0", 402, 3, ZERO, Due.whole(Due.LESS_SIGNED, 2, -1, 0, 23),
                Due.register(op, 0, 2), Due.end());
            Due.walks("less signed than 0", 125, 5, ZERO, Due.whole(Due.NOT_LESS_SIGNED, 2, -1, 0, 23),
                Due.register(op, 0, 2), Due.end());
        }
    }

    private static void alarmOfPlaces() {
        Due.says("5 GET or PUT, and b's HIGH is more than 3");
        int[][] all = {Due.number(Due.PUT, 1, 0), Due.number(Due.PUT, 1, 1), Due.number(Due.PUT, 1, 2),
            Due.number(Due.PUT, 1, 3)};
        for (int op = Due.GET; op <= Due.PUT; op++) {
            for (int place = 0; place <= 3; place++) {
                Due.walks("place " + place, 0, 7, Told.startedAndEnded(Told.joined(all, Due.number(op, 0, place))));
            }
            for (int place : new int[] {4, -1, MIN, MAX}) {
                Due.walks("place " + place, 505, 6, Told.startedAndEnded(Told.joined(all, Due.number(op, 0, place))));
            }
            Due.walks("places 0 .. 3", 0, 8, Told.startedAndEnded(Told.joined(all, Due.number(Due.AND, 2, 3),
                Due.register(op, 0, 2))));
            Due.walks("places 0 .. 4", 506, 7, Told.startedAndEnded(Told.joined(all, Due.number(Due.AND, 2, 4),
                Due.register(op, 0, 2))));
            Due.walks("places 1 .. 4", 507, 8, Told.startedAndEnded(Told.joined(all, Due.number(Due.AND, 2, 3),
                Due.number(Due.ADD, 2, 1), Due.register(op, 0, 2))));
            Due.walks("any place", 505, 6, Told.startedAndEnded(Told.joined(all, Due.register(op, 0, 2))));
        }
    }

    private static void alarmOfUnsetPlaces() {
        Due.says("6 GET, and one of the places LOW .. HIGH of b is unset");
        for (int low = 0; low <= 2; low++) {
            // b is low .. low + 1; all places but one are set.
            for (int unset = 0; unset <= 3; unset++) {
                List<int[]> program = new ArrayList<>();
                for (int place = 0; place <= 3; place++) {
                    program.add(Due.number(Due.PUT, 1, place == unset ? (unset + 1) % 4 : place));
                }
                program.add(Due.number(Due.AND, 2, 1));
                program.add(Due.number(Due.ADD, 2, low));
                program.add(Due.register(Due.GET, 0, 2));
                program.add(Due.end());
                boolean reads = unset == low || unset == low + 1;
                Due.walks("GET " + low + " .. " + (low + 1) + " without " + unset, reads ? 606 : 0, reads ? 7 : 8,
                    program.toArray(new int[0][]));
                program.set(6, Due.register(Due.PUT, 1, 2));
                program.set(7, ZERO);
                program.add(Due.end());
                Due.walks("PUT " + low + " .. " + (low + 1) + " without " + unset, 0, 9, program.toArray(new int[0][]));
            }
        }
    }

    private static void alarmOfBytes() {
        Due.says("7 LOAD, and N and OFFSET together are more than SAFE of B.");
        for (int howMany : new int[] {1, 2, 4}) {
            for (int safe = 0; safe <= 16; safe++) {
                for (int n = 0; n <= 16; n++) {
                    boolean fits = n + howMany <= safe;
                    Due.walks("LOAD " + howMany + " from " + n + ", SAFE " + safe, fits ? 0 : 702, fits ? 5 : 3,
                        ZERO, Due.whole(Due.BEYOND, 0, 2, safe, 1), Due.whole(Due.LOAD, 0, 2, n, howMany), Due.end());
                }
            }
        }
        // SAFE of another register is of no use, nor that the number is small.
        Due.walks("SAFE of another", 702, 3, ZERO, Due.whole(Due.BEYOND, 0, 2, 16, 1), Due.whole(Due.LOAD, 0, 1, 0, 1),
            Due.end());
        Due.walks("the number 0", 701, 2, ZERO, Due.whole(Due.LOAD, 0, 0, 0, 1), Due.end());
    }

    private static void firstAlarmThatHolds() {
        Due.says("It raises an ALARM, the first of these that holds, at the place it comes to:");
        asThe301st("none", 1, 1);
        asThe301st("END without register 0", 3, 2, Due.end());
        asThe301st("an unset register", 3, 2, ALARMING);
        asThe301st("DIVIDE by 0", 4, 2, Due.number(Due.DIVIDE, 1, 0));
        asThe301st("REST by 0", 4, 2, Due.number(Due.REST, 1, 0));
        asThe301st("GET from 4", 5, 2, Due.number(Due.GET, 1, 4));
        asThe301st("PUT to 4", 5, 2, Due.number(Due.PUT, 1, 4));
        asThe301st("GET from an unset place", 6, 2, Due.number(Due.GET, 1, 0));
        asThe301st("LOAD", 7, 2, Due.whole(Due.LOAD, 0, 1, 0, 1));
        for (int op = Due.DIVIDE; op <= Due.REST; op++) {
            Due.walks("A unset and by 0", 300, 1, Due.number(op, 3, 0), Due.end());
            Due.walks("A unset and by 0 .. 16", 300, 1, Due.register(op, 3, 1), Due.end());
        }
        Due.walks("A unset and no such place", 300, 1, Due.number(Due.PUT, 3, 4), Due.end());
        Due.walks("B unset, so no such place", 300, 1, Due.register(Due.GET, 1, 3), Due.end());
        Due.walks("B unset, so no such byte", 300, 1, Due.whole(Due.LOAD, 1, 3, 0, 1), Due.end());
        Due.walks("no such place, and unset ones", 500, 1, Due.number(Due.GET, 1, 4), Due.end());
        Due.walks("no such place among unset ones", 500, 1, Due.register(Due.GET, 1, 1), Due.end());
    }

    private static void gets() {
        Due.says("GET: A is the meet of the places LOW .. HIGH of b.");
        // 1, 2, 4 and 8 at the four places.
        int[][] before = {Due.number(Due.MOVE, 3, 1), Due.number(Due.PUT, 3, 0), Due.number(Due.MOVE, 3, 2),
            Due.number(Due.PUT, 3, 1),
            Due.number(Due.MOVE, 3, 4), Due.number(Due.PUT, 3, 2), Due.number(Due.MOVE, 3, 8),
                Due.number(Due.PUT, 3, 3)};
        for (int place = 0; place <= 3; place++) {
            Told.after(4, Told.exactly(1 << place), Told.joined(before, Due.number(Due.GET, 4, place)));
        }
        int[] get = Due.register(Due.GET, 4, 2);
        int[] bit = Due.number(Due.AND, 2, 1);
        Told.after(4, Told.upTo(ALL - 3, 1, 2), Told.joined(before, bit, get));
        Told.after(4, Told.upTo(ALL - 6, 2, 4), Told.joined(before, bit, Due.number(Due.ADD, 2, 1), get));
        Told.after(4, Told.upTo(ALL - 12, 4, 8), Told.joined(before, bit, Due.number(Due.ADD, 2, 2), get));
        Told.after(4, Told.upTo(ALL - 15, 1, 8), Told.joined(before, Due.number(Due.AND, 2, 3), get));
        // A is b.
        Told.after(2, Told.upTo(ALL - 15, 1, 8), Told.joined(before, Due.number(Due.AND, 2, 3),
            Due.register(Due.GET, 2, 2)));
    }

    private static void puts() {
        Due.says("PUT, if b is exactly one number: that place is what is known of A; otherwise each place LOW .."
            + " HIGH of b that is set becomes the meet of itself and A.");
        int[] five = Due.number(Due.MOVE, 3, 5);
        int[] seven = Due.number(Due.MOVE, 4, 7);
        int[] bit = Due.number(Due.AND, 2, 1);
        String met = Due.row(0xFFFFFFFDL, 5, 5, 7, 5, 7, 0);
        for (int low = 0; low <= 2; low++) {
            for (int place = 0; place <= 3; place++) {
                int[] get = Due.number(Due.GET, 0, place);
                int[] set = Due.number(Due.PUT, 3, place);
                Told.after(0, Told.exactly(place == low ? 7 : 5), five, seven, set, Due.number(Due.MOVE, 2, low),
                    Due.number(Due.PUT, 4, low), get);
                Told.after(0, Told.exactly(place == low ? 7 : 5), five, seven, set, Due.number(Due.MOVE, 2, low),
                    Due.register(Due.PUT, 4, 2), get);
                boolean within = place == low || place == low + 1;
                Told.after(0, within ? met : Told.exactly(5), five, seven, set, bit, Due.number(Due.ADD, 2, low),
                    Due.register(Due.PUT, 4, 2), get);
                // A place that is unset stays so.
                Due.walks("an unset place", 606, 7, Told.startedAndEnded(five, seven, bit, Due.number(Due.ADD, 2, low),
                    Due.register(Due.PUT, 4, 2), get));
            }
        }
        // All that is known of A, SAFE too; A is b.
        Told.after(0, Due.row(0xFFFFFFE0L, 0, 0, 16, 0, 16, 6), Due.whole(Due.BEYOND, 0, 1, 6, 23),
            Due.number(Due.PUT, 1, 2),
            Due.number(Due.GET, 0, 2));
        Told.after(0, Told.exactly(3), Due.number(Due.MOVE, 3, 3), Due.register(Due.PUT, 3, 3),
            Due.number(Due.GET, 0, 3));
    }

    private static void loads() {
        Due.says("LOAD: of 1 or 2 bytes, LOW and LEAST are 0, HIGH and MOST 255 or 65535, no bit is known,"
            + " tightened, SAFE 0; of 4 bytes nothing is known.");
        int[] guard = Due.whole(Due.BEYOND, 0, 2, 16, 23);
        for (int a : new int[] {2, 3}) {
            Told.after(a, Due.row(0xFFFFFF00L, 0, 0, 255, 0, 255, 0), guard, Due.whole(Due.LOAD, a, 2, 15, 1));
            Told.after(a, Due.row(0xFFFF0000L, 0, 0, 65535, 0, 65535, 0), guard, Due.whole(Due.LOAD, a, 2, 14, 2));
            Told.after(a, Told.NOTHING, guard, Due.whole(Due.LOAD, a, 2, 12, 4));
        }
        Told.after(2, Due.row(0, 0, 0, ALL, MIN, MAX, 16), guard, Due.whole(Due.LOAD, 3, 2, 12, 4));
    }

    private static void beyond() {
        Due.says("After BEYOND two ways go on: where it does not go, SAFE of B is at least N; and where it goes,"
            + " what was known.");
        for (int n = 0; n <= 16; n++) {
            Told.after(2, Due.row(0, 0, 0, ALL, MIN, MAX, n), Due.whole(Due.BEYOND, 0, 2, n, 23));
            Told.after(2, Due.row(0, 0, 0, ALL, MIN, MAX, Math.max(n, 9)), Due.whole(Due.BEYOND, 0, 2, 9, 23),
                Due.whole(Due.BEYOND, 0, 2, n, 23));
            Told.after(2, Told.NOTHING, Due.whole(Due.BEYOND, 0, 2, n, 1), Due.end());
            Told.after(2, Due.row(0, 0, 0, ALL, MIN, MAX, 9), Due.whole(Due.BEYOND, 0, 2, 9, 23),
                Due.whole(Due.BEYOND, 0, 2, n, 1), Due.end());
        }
        Told.after(1, Told.LENGTH, Due.whole(Due.BEYOND, 1, 2, 9, 23));
        // Nothing is tightened on either way: a multiple of 4 from 4 to 7.
        int[][] four = fourOnly();
        Told.after(3, Due.row(ALL, 4, 4, 7, 4, 7, 9), Told.joined(four, Due.whole(Due.BEYOND, 0, 3, 9, 23)));
        Told.after(3, Due.row(ALL, 4, 4, 7, 4, 7, 0), Told.joined(four, Due.whole(Due.BEYOND, 0, 3, 9, 1), Due.end()));
        // What the way that does not go does to a register or a place is not known where it goes.
        int[] five = Due.number(Due.MOVE, 3, 5);
        int[] seven = Due.number(Due.MOVE, 4, 7);
        for (int r = 0; r <= 5; r++) {
            Told.after(r, Told.exactly(5), Due.number(Due.MOVE, r, 5), Due.whole(Due.BEYOND, 0, 1, 0, 2),
                Due.number(Due.MOVE, r, 7), Due.end());
        }
        for (int place = 0; place <= 3; place++) {
            Told.after(0, Told.exactly(5), five, Due.number(Due.PUT, 3, place), seven,
                Due.whole(Due.BEYOND, 0, 1, 0, 2),
                Due.number(Due.PUT, 4, place), Due.end(), Due.number(Due.GET, 0, place));
            Due.walks("place " + place, 607, 8, Told.startedAndEnded(five, seven, Due.whole(Due.BEYOND, 0, 1, 0, 2),
                Due.number(Due.PUT, 4, place), Due.end(), ZERO, Due.number(Due.GET, 0, place)));
        }
        // Both are walked, though 0 + 0 is never beyond, and 17 always.
        Due.walks("0 + 0", 0, 4, ZERO, Due.whole(Due.BEYOND, 0, 0, 0, 1), Due.end(), Due.end());
        Due.walks("17 + 0", 0, 4, Due.number(Due.MOVE, 0, 17), Due.whole(Due.BEYOND, 0, 0, 0, 1), Due.end(), Due.end());
    }

    /** Register 3 is a multiple of 4 from 4 to 7: all its bits are known, and its bounds tell less. */
    private static int[][] fourOnly() {
        return new int[][] {Due.register(Due.MOVE, 3, 2), Due.number(Due.LEFT, 3, 2),
            Due.whole(Due.LESS, 3, -1, 4, 23), Due.whole(Due.NOT_LESS, 3, -1, 8, 23)};
    }

    /** What is known of A and of B where the relation holds. */
    private static void pair(int relation, int a, int b, String ofA, String ofB, int[]... before) {
        Told.where(relation, a, b, 0, a, ofA, before);
        Told.where(relation, a, b, 0, b, ofB, before);
    }

    private static void equal() {
        Due.says("where they are EQUAL: for both, the bits known in either, the greater LOW and LEAST, the lesser"
            + " HIGH and MOST, and the greater SAFE, tightened (impossible, too, if a bit is known otherwise in"
            + " both); where they are not: what was known.");
        // Bit 0 is known of one, bit 1 of the other.
        int[][] bits = {Due.register(Due.MOVE, 3, 2), Due.number(Due.OR, 3, 1), Due.register(Due.MOVE, 4, 2),
            Due.number(Due.OR, 4, 2), Due.number(Due.XOR, 4, 2)};
        String both = Due.row(3, 1, 1, ALL - 2, MIN, MAX, 0);
        pair(Due.EQUAL, 3, 4, both, both, bits);
        pair(Due.EQUAL, 4, 3, both, both, bits);
        pair(Due.UNLIKE, 3, 4, Due.row(1, 1, 1, ALL, MIN, MAX, 0), Due.row(2, 0, 0, ALL - 2, MIN, MAX, 0), bits);
        // 3 .. 19 with SAFE 6, and 0 .. 16 with SAFE 9.
        int[][] ranges = {Due.whole(Due.BEYOND, 0, 1, 9, 23), Due.register(Due.MOVE, 3, 1), Due.number(Due.ADD, 3, 3)};
        String narrow = Due.row(0xFFFFFFE0L, 0, 3, 16, 3, 16, 9);
        pair(Due.EQUAL, 3, 1, narrow, narrow, ranges);
        pair(Due.EQUAL, 1, 3, narrow, narrow, ranges);
        // From 5 on and up to 2^31 + 8, of which nothing signed is known.
        int[][] unsigned = {Due.register(Due.MOVE, 3, 2), Due.whole(Due.LESS, 2, -1, 5, 23),
            Due.whole(Due.NOT_LESS, 3, -1, MIN + 9, 23)};
        String inner = Told.between(5, HALF + 8, MIN, MAX);
        pair(Due.EQUAL, 2, 3, inner, inner, unsigned);
        pair(Due.EQUAL, 3, 2, inner, inner, unsigned);
        // -7 .. 9 and -9 .. 7.
        int[][] signed = {Due.register(Due.MOVE, 3, 1), Due.number(Due.SUBTRACT, 3, 7), Due.number(Due.SUBTRACT, 1, 9)};
        String middle = Told.between(0, ALL, -7, 7);
        pair(Due.EQUAL, 3, 1, middle, middle, signed);
        pair(Due.EQUAL, 1, 3, middle, middle, signed);
        // 16 and 0 .. 16 have one number in common, 17 none; the same with -8 .. 8 and 8, 9, -8, -9.
        Told.where(Due.EQUAL, 1, -1, 16, 1, Told.exactly(16));
        Told.walked(true, Due.EQUAL, 1, -1, 16);
        Told.walked(false, Due.EQUAL, 1, -1, 17);
        Told.walked(false, Due.EQUAL, 1, -1, -1);
        int[] eight = Due.number(Due.SUBTRACT, 1, 8);
        Told.walked(true, Due.EQUAL, 1, -1, 8, eight);
        Told.walked(false, Due.EQUAL, 1, -1, 9, eight);
        Told.walked(true, Due.EQUAL, 1, -1, -8, eight);
        Told.walked(false, Due.EQUAL, 1, -1, -9, eight);
        // Bit 0 is 1 in one and 0 in the other; nothing else tells it.
        int[][] otherwise = {Due.register(Due.MOVE, 3, 2), Due.number(Due.OR, 3, 1), Due.number(Due.LEFT, 2, 1)};
        Told.walked(false, Due.EQUAL, 3, 2, 0, otherwise);
        Told.walked(true, Due.UNLIKE, 3, 2, 0, otherwise);
    }

    private static void less() {
        Due.says("Where A is LESS than Y: A's HIGH is at most Y's HIGH less 1, Y's LOW at least A's LOW and 1");
        // 3 .. 19 and 0 .. 16.
        int[][] before = {Due.register(Due.MOVE, 3, 1), Due.number(Due.ADD, 3, 3)};
        pair(Due.LESS, 3, 1, Told.upTo(0xFFFFFFF0L, 3, 15), Told.upTo(0xFFFFFFE0L, 4, 16), before);
        pair(Due.LESS, 1, 3, Told.LENGTH, Told.upTo(0xFFFFFFE0L, 3, 19), before);
        // A from 0 to 2^31, Y from 2^31 - 1 on, of which nothing signed is known: they stay.
        int[][] apart = {Due.register(Due.MOVE, 3, 2), Due.whole(Due.NOT_LESS, 3, -1, MIN + 1, 23),
            Due.whole(Due.LESS, 2, -1, MAX, 23)};
        pair(Due.LESS, 3, 2, Told.between(0, HALF, MIN, MAX), Told.between(MAX, ALL, MIN, MAX), apart);
        // The ends of the numbers.
        Told.walked(false, Due.LESS, 2, -1, 0);
        Told.where(Due.LESS, 2, -1, 1, 2, Told.exactly(0));
        Told.where(Due.LESS, 2, -1, -1, 2, Told.between(0, ALL - 1, MIN, MAX));
        int[] last = Due.number(Due.MOVE, 3, -1);
        Told.walked(false, Due.LESS, 3, 2, 0, last);
        Told.where(Due.LESS, 3, 2, 0, 2, Told.exactly(-1), Due.number(Due.MOVE, 3, -2));
        Told.where(Due.LESS, 2, 3, 0, 2, Told.between(0, ALL - 1, MIN, MAX), last);
        // 16 is less than none of 0 .. 16, 15 than one; 0 .. 16 is less than 1 once, than 0 never.
        Told.walked(false, Due.LESS, 3, 1, 0, Due.number(Due.MOVE, 3, 16));
        Told.where(Due.LESS, 3, 1, 0, 1, Told.exactly(16), Due.number(Due.MOVE, 3, 15));
        Told.walked(false, Due.LESS, 1, -1, 0);
        Told.where(Due.LESS, 1, -1, 1, 1, Told.exactly(0));
    }

    private static void notLess() {
        Due.says("where it is NOT LESS: A's LOW at least Y's LOW, Y's HIGH at most A's HIGH; both tightened.");
        int[][] before = {Due.register(Due.MOVE, 3, 1), Due.number(Due.ADD, 3, 3)};
        pair(Due.NOT_LESS, 1, 3, Told.upTo(0xFFFFFFE0L, 3, 16), Told.upTo(0xFFFFFFE0L, 3, 16), before);
        pair(Due.NOT_LESS, 3, 1, Told.upTo(0xFFFFFFE0L, 3, 19), Told.LENGTH, before);
        // A from 2^31 - 1 on, Y from 0 to 2^31, of which nothing signed is known: they stay.
        int[][] apart = {Due.register(Due.MOVE, 3, 2), Due.whole(Due.NOT_LESS, 3, -1, MIN + 1, 23),
            Due.whole(Due.LESS, 2, -1, MAX, 23)};
        pair(Due.NOT_LESS, 2, 3, Told.between(MAX, ALL, MIN, MAX), Told.between(0, HALF, MIN, MAX), apart);
        Told.where(Due.NOT_LESS, 2, -1, 0, 2, Told.NOTHING);
        Told.where(Due.NOT_LESS, 2, -1, -1, 2, Told.exactly(-1));
        Told.where(Due.NOT_LESS, 3, 2, 0, 2, Told.exactly(0), Due.number(Due.MOVE, 3, 0));
        Told.where(Due.NOT_LESS, 1, -1, 16, 1, Told.exactly(16));
        Told.walked(false, Due.NOT_LESS, 1, -1, 17);
    }

    private static void lessSigned() {
        Due.says("LESS SIGNED and NOT LESS SIGNED likewise with LEAST and MOST.");
        // -8 .. 8 and -5 .. 11, of which nothing unsigned is known.
        int[][] before = {Due.register(Due.MOVE, 3, 1), Due.number(Due.SUBTRACT, 1, 8), Due.number(Due.SUBTRACT, 3, 5)};
        pair(Due.LESS_SIGNED, 3, 1, Told.between(0, ALL, -5, 7), Told.between(0, ALL, -4, 8), before);
        pair(Due.LESS_SIGNED, 1, 3, Told.between(0, ALL, -8, 8), Told.between(0, ALL, -5, 11), before);
        pair(Due.NOT_LESS_SIGNED, 1, 3, Told.between(0, ALL, -5, 8), Told.between(0, ALL, -5, 8), before);
        pair(Due.NOT_LESS_SIGNED, 3, 1, Told.between(0, ALL, -5, 11), Told.between(0, ALL, -8, 8), before);
        // The ends of the numbers.
        Told.walked(false, Due.LESS_SIGNED, 2, -1, MIN);
        Told.where(Due.LESS_SIGNED, 2, -1, MIN + 1, 2, Told.exactly(MIN));
        Told.where(Due.LESS_SIGNED, 2, -1, MAX, 2, Told.between(0, ALL, MIN, MAX - 1));
        Told.walked(false, Due.LESS_SIGNED, 3, 2, 0, Due.number(Due.MOVE, 3, MAX));
        Told.where(Due.LESS_SIGNED, 3, 2, 0, 2, Told.exactly(MAX), Due.number(Due.MOVE, 3, MAX - 1));
        Told.where(Due.NOT_LESS_SIGNED, 2, -1, MAX, 2, Told.exactly(MAX));
        Told.where(Due.NOT_LESS_SIGNED, 2, -1, MIN, 2, Told.NOTHING);
        Told.where(Due.NOT_LESS_SIGNED, 3, 2, 0, 2, Told.exactly(MIN), Due.number(Due.MOVE, 3, MIN));
        // Signed, -1 is less than 0; unsigned it is not.
        Told.walked(true, Due.LESS_SIGNED, 3, -1, 0, Due.number(Due.MOVE, 3, -1));
        Told.walked(false, Due.LESS, 3, -1, 0, Due.number(Due.MOVE, 3, -1));
    }

    private static void whatWasKnownBefore() {
        Due.says("(These use what was known of both before.)");
        // 4 .. 7 by its bounds, 4 by its bits: tightened it is 4, but Y's bounds are set from 4 .. 7.
        int[][] four = fourOnly();
        Told.where(Due.NOT_LESS, 3, 1, 0, 3, Told.exactly(4), four);
        Told.where(Due.NOT_LESS, 3, 1, 0, 1, Told.upTo(0xFFFFFFF8L, 0, 7), four);
        Told.where(Due.LESS, 1, 3, 0, 1, Told.upTo(0xFFFFFFF8L, 0, 6), four);
        Told.where(Due.LESS, 1, 3, 0, 3, Told.exactly(4), four);
    }

    private static void oneOfTheTwoImpossible() {
        Due.says("A way on which one of the two is impossible is not walked.");
        // A is one of 0, 1, 4, 5 from 2 on; below 4 there is none, though Y, which is 4, is possible.
        int[] five = Due.number(Due.AND, 2, 5);
        Told.walked(false, Due.LESS, 2, -1, 4, five, Due.whole(Due.LESS, 2, -1, 2, 23));
        // Y is one of 0, 1 (and by its bounds 2, 3); from 2 on there is none, though A, which is 1, is possible.
        int[] one = Due.number(Due.MOVE, 3, 1);
        int[] belowFour = Due.whole(Due.NOT_LESS, 2, -1, 4, 23);
        Told.walked(false, Due.LESS, 3, 2, 0, one, five, belowFour);
        Told.walked(true, Due.LESS, 3, 2, 0, Due.number(Due.MOVE, 3, 0), five, belowFour);
        Told.walked(true, Due.LESS, 2, -1, 5, five, Due.whole(Due.LESS, 2, -1, 2, 23));
    }

    private static void alikeAndExact() {
        Due.says("EQUAL and UNLIKE: where they are not alike is not walked, either, if both are known exactly and"
            + " as the same.");
        for (int n : new int[] {0, 5, -1, MIN, MAX}) {
            int[] three = Due.number(Due.MOVE, 3, n);
            Told.walked(false, Due.UNLIKE, 3, -1, n, three);
            Told.walked(false, Due.UNLIKE, 3, 4, 0, three, Due.number(Due.MOVE, 4, n));
            Told.walked(true, Due.EQUAL, 3, -1, n, three);
            // Exactly, but not as the same; one of them not exactly.
            Told.walked(true, Due.UNLIKE, 3, -1, n + 1, three);
            Told.walked(false, Due.EQUAL, 3, -1, n + 1, three);
            Told.walked(true, Due.UNLIKE, 3, 2, 0, three);
            Told.walked(true, Due.UNLIKE, 2, 3, 0, three);
        }
        // Known alike, but neither exactly.
        Told.walked(true, Due.UNLIKE, 3, 1, 0, Due.register(Due.MOVE, 3, 1));
        Told.walked(true, Due.UNLIKE, 1, 1, 0);
    }

    private static void oneRegister() {
        Due.says("A and Y being one register, both changes are made, A's first, Y's then from what was known"
            + " before, and only Y's stays.");
        // Of 0 .. 16, A's change leaves 0 .. 15, Y's 1 .. 16.
        Told.where(Due.LESS, 1, 1, 0, 1, Told.upTo(0xFFFFFFE0L, 1, 16));
        Told.where(Due.LESS_SIGNED, 1, 1, 0, 1, Told.upTo(0xFFFFFFE0L, 1, 16));
        Told.where(Due.NOT_LESS, 1, 1, 0, 1, Told.LENGTH);
        Told.where(Due.NOT_LESS_SIGNED, 1, 1, 0, 1, Told.LENGTH);
        Told.where(Due.EQUAL, 1, 1, 0, 1, Told.LENGTH);
        Told.where(Due.UNLIKE, 1, 1, 0, 1, Told.LENGTH);
        // Of two numbers, A's change and Y's leave one each, which together would be none.
        int[] bit = Due.number(Due.AND, 2, 1);
        Told.where(Due.LESS, 2, 2, 0, 2, Told.exactly(1), bit);
        Told.where(Due.LESS_SIGNED, 2, 2, 0, 2, Told.exactly(1), bit);
        Told.where(Due.LESS, 2, 2, 0, 2, Told.between(1, ALL, MIN, MAX));
        Told.where(Due.LESS_SIGNED, 2, 2, 0, 2, Told.between(0, ALL, MIN + 1, MAX));
        // Of one, either leaves none.
        Told.walked(false, Due.LESS, 3, 3, 0, Due.number(Due.MOVE, 3, 6));
        Told.walked(false, Due.LESS_SIGNED, 3, 3, 0, Due.number(Due.MOVE, 3, 6));
        Told.walked(false, Due.UNLIKE, 3, 3, 0, Due.number(Due.MOVE, 3, 6));
        Told.walked(true, Due.EQUAL, 3, 3, 0, Due.number(Due.MOVE, 3, 6));
        Told.walked(true, Due.NOT_LESS, 3, 3, 0, Due.number(Due.MOVE, 3, 6));
        Told.walked(true, Due.NOT_LESS_SIGNED, 3, 3, 0, Due.number(Due.MOVE, 3, 6));
        // 2 .. 4 without bit 1: A's change leaves 2 .. 3, which is impossible; Y's would leave 3 .. 4.
        int[] five = Due.number(Due.AND, 2, 5);
        Told.walked(false, Due.LESS, 2, 2, 0, five, Due.whole(Due.LESS, 2, -1, 2, 23),
            Due.whole(Due.NOT_LESS, 2, -1, 5, 23));
        // 1 .. 3 by its bounds, 0 .. 1 by its bits: A's change leaves 1; Y's none.
        Told.walked(false, Due.LESS, 2, 2, 0, five, Due.whole(Due.LESS, 2, -1, 1, 23),
            Due.whole(Due.NOT_LESS, 2, -1, 4, 23));
        // Both are tightened, so Y's is, where nothing else changes.
        int[][] four = fourOnly();
        Told.where(Due.NOT_LESS, 3, 3, 0, 3, Told.exactly(4), four);
        Told.where(Due.EQUAL, 3, 3, 0, 3, Told.exactly(4), four);
        Told.where(Due.UNLIKE, 3, 3, 0, 3, Due.row(ALL, 4, 4, 7, 4, 7, 0), four);
    }

    private static void notGoingFirst() {
        Due.says("Of two ways the one that does not go is walked to its ends first.");
        for (int op = Due.BEYOND; op <= Due.NOT_LESS_SIGNED; op++) {
            Due.walks("op " + op, 302, 3, ZERO, Due.whole(op, 2, 1, 0, 2), ALARMING, Due.end(), ALARMING);
            Due.walks("op " + op + ", its end far off", 305, 6, ZERO, Due.whole(op, 2, 1, 0, 4), ZERO, ZERO, ZERO,
                ALARMING, ALARMING);
        }
        // Its ends: both ways of a second fork come before the going one of the first.
        int[] fork = Due.whole(Due.BEYOND, 0, 1, 0, 3);
        Due.walks("a fork in it", 306, 5, ZERO, fork, fork, Due.end(), Due.end(), ALARMING, ALARMING);
        Due.walks("three forks", 307, 6, ZERO, fork, fork, fork, Due.end(), ALARMING, ALARMING, ALARMING);
    }

    private static void overAtTheEnd() {
        Due.says("The walk is over when all ways have come to END with register 0 set (if it is unset: alarm 3),"
            + " or with the first alarm.");
        Due.walks("register 0 is unset", 300, 1, Due.end());
        for (int r = 1; r <= 5; r++) {
            Due.walks("register " + r + " is set, 0 is not", 301, 2, Due.number(Due.MOVE, r, 0), Due.end());
        }
        Due.walks("register 0 is set", 0, 2, ZERO, Due.end());
        Due.walks("it is unset on the first way", 301, 2, Due.whole(Due.BEYOND, 0, 1, 0, 1), Due.end(), ZERO,
            Due.end());
        Due.walks("it is unset on the second way", 303, 4, Due.whole(Due.BEYOND, 0, 1, 0, 2), ZERO, Due.end(),
            Due.end());
        Due.walks("all ways", 0, 8, ZERO, Due.whole(Due.BEYOND, 0, 1, 0, 2), Due.whole(Due.BEYOND, 0, 1, 0, 2),
            Due.end(),
            Due.whole(Due.BEYOND, 0, 1, 0, 1), Due.end(), Due.end());
        // The ways that the alarm left are not taken up by the next walk.
        ProgramGate x = Due.gate(Due.whole(Due.BEYOND, 0, 1, 0, 1), ALARMING, Due.end());
        Due.due("walk", x.walk(), 301);
        x.clear();
        Due.append(x, ZERO, ZERO, Due.end());
        Due.due("the next walk", x.walk(), 0);
        Due.due("its steps", x.steps(), 3);
        Due.walks("the first alarm, others later", 303, 4, ZERO, Due.whole(Due.BEYOND, 0, 1, 0, 2),
            Due.whole(Due.BEYOND, 0, 1, 0, 2),
            ALARMING, Due.whole(Due.GO, 0, -1, 0, 23), Due.number(Due.DIVIDE, 0, 0));
    }
}
