/**
 * What the edge tests share. Each method of theirs is the test of one sentence of the document that names
 * a boundary case, and stays within an object's 512 calls.
 */
abstract class Edges {
    static final int SET = 0;
    static final int MOVE = 1;
    static final int ADD = 2;
    static final int SUB = 3;
    static final int MUL = 4;
    static final int DIV = 5;
    static final int AND = 6;
    static final int XOR = 7;
    static final int LESS = 8;
    static final int BRANCH = 9;
    static final int CLAIM = 10;
    static final int HALT = 11;

    static final int HALTED = LaneJudge.HALTED;
    static final int TIRED = LaneJudge.TIRED;
    static final int TRAPPED = LaneJudge.TRAPPED;
    static final int FAILED = LaneJudge.FAILED;

    static final int LEAST = Integer.MIN_VALUE;
    static final int GREATEST = Integer.MAX_VALUE;

    /** What is neither an input nor a fate, register, bit or position; some would be one after a wrap-around. */
    static final int[] NEVER_FITS = {
        -1, -2, -64, LEAST, LEAST + 1, 64, 65, 256, 1 << 29, 1 << 30, (1 << 30) + 1, GREATEST - 1, GREATEST,
    };

    /** Five instructions that make register 2 = 1 for input 63 and 0 for every other; registers 0 and 1 stay. */
    static final int[] TELLS_63 = {SET, 2, 6, LESS, 2, 0, SET, 3, 6, LESS, 3, 1, AND, 2, 3};

    /** Two instructions after which only input 0 goes on at position 2; every other ends at 12. */
    static final int[] ONLY_0 = {BRANCH, 0, 12, BRANCH, 1, 12};

    /** Eight instructions after which only input 63 goes on, at position 8 with register 3 = 0; every other halts at 6. */
    static final int[] ONLY_63 = {SET, 2, 6, LESS, 2, 0, SET, 3, 6, LESS, 3, 1, AND, 2, 3, BRANCH, 2, 7, HALT, 0, 0, XOR, 3, 3};

    /** A new object with this program, three numbers for each instruction. */
    static LaneJudge judge(int limit, int... program) {
        LaneJudge x = new LaneJudge(limit);
        append(x, program);
        return x;
    }

    static void append(LaneJudge x, int... program) {
        for (int n = 0; n < program.length; n += 3) {
            int answer = x.emit(program[n], program[n + 1], program[n + 2]);
            Due.holds("emit(" + program[n] + ", " + program[n + 1] + ", " + program[n + 2] + ") is accepted", answer >= 0);
        }
    }

    /** A program of so many instructions that change nothing. */
    static LaneJudge idle(int limit, int length) {
        LaneJudge x = new LaneJudge(limit);
        for (int p = 0; p < length; p++) {
            append(x, MOVE, 0, 0);
        }
        return x;
    }

    static void ends(String what, LaneJudge x, int k, int fate, int steps, int endAt) {
        Due.is(what + ": fate(" + k + ")", x.fate(k), fate);
        Due.is(what + ": steps(" + k + ")", x.steps(k), steps);
        Due.is(what + ": endAt(" + k + ")", x.endAt(k), endAt);
    }

    static void registers(String what, LaneJudge x, int k, int... values) {
        for (int i = 0; i < 4; i++) {
            Due.is(what + ": register(" + k + ", " + i + ")", x.register(k, i), values[i]);
        }
    }

    static void agrees(String what, LaneJudge x, int agreeing, int difference) {
        Due.is(what + ": agreeing()", x.agreeing(), agreeing);
        Due.is(what + ": difference()", x.difference(), difference);
    }

    /** Whether two objects answer alike: 475 calls on each. */
    static void alike(String what, LaneJudge x, LaneJudge y) {
        Due.is(what + ": length()", x.length(), y.length());
        for (int k = 0; k < 64; k++) {
            ends(what, x, k, y.fate(k), y.steps(k), y.endAt(k));
            registers(what, x, k, y.register(k, 0), y.register(k, 1), y.register(k, 2), y.register(k, 3));
        }
        for (int n = 0; n < 4; n++) {
            Due.is(what + ": count(" + n + ")", x.count(n), y.count(n));
            Due.is(what + ": first(" + n + ")", x.first(n), y.first(n));
            Due.is(what + ": always(" + n + ")", x.always(n), y.always(n));
        }
        for (int p = 0; p < 12; p++) {
            Due.is(what + ": visits(" + p + ")", x.visits(p), y.visits(p));
        }
        agrees(what, x, y.agreeing(), y.difference());
    }

    /** Register 2 after the operation on registers 2 and 3 with these values. */
    static void gives(int op, int left, int right, int due) {
        LaneJudge x = judge(40, SET, 2, left, SET, 3, right, op, 2, 3);
        String what = "operation " + op + " on " + left + " and " + right;
        Due.is(what, x.always(2), due);
        Due.is(what + ", the second register", x.always(3), right);
    }
}
