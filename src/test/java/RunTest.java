/** Promises 6 to 9: fate, steps, endAt, register, and the operations and the run of the Terms. */
public final class RunTest {
    private static final int[] NO_INPUTS = {-1, 64, 65, Integer.MIN_VALUE, Integer.MAX_VALUE};
    private static final int[] NO_REGISTERS = {-1, 4, 5, Integer.MIN_VALUE, Integer.MAX_VALUE};

    public static void main(String[] args) {
        wrongInputs();
        setAndMove();
        operationsOnAllPairs();
        operationsOnOneRegister();
        operationsOnEveryTwoRegisters();
        branchGoesWhereItSays();
        branchReadsAnyValueButZero();
        branchPastTheEnd();
        haltEnds();
        divTraps();
        claimFails();
        limitAgainstEnd();
        limitAgainstEndings();
        tiredPlaceAndRegisters();
        answersFollowTheProgram();
        Due.end();
    }

    private static void endsWith(String what, LaneJudge x, int k, int fate, int steps, int endAt) {
        Due.is(what + ": fate(" + k + ")", x.fate(k), fate);
        Due.is(what + ": steps(" + k + ")", x.steps(k), steps);
        Due.is(what + ": endAt(" + k + ")", x.endAt(k), endAt);
    }

    private static void wrongInputs() {
        LaneJudge x = new LaneJudge(40);
        x.emit(0, 3, 1);
        for (int k : NO_INPUTS) {
            Due.is("fate(" + k + ")", x.fate(k), -1);
            Due.is("steps(" + k + ")", x.steps(k), -1);
            Due.is("endAt(" + k + ")", x.endAt(k), -1);
            for (int i = 0; i < 4; i++) {
                Due.is("register(" + k + ", " + i + ")", x.register(k, i), -1);
            }
            for (int i : NO_REGISTERS) {
                Due.is("register(" + k + ", " + i + ")", x.register(k, i), -1);
            }
        }
        for (int i : NO_REGISTERS) {
            Due.is("register(0, " + i + ")", x.register(0, i), -1);
            Due.is("register(63, " + i + ")", x.register(63, i), -1);
        }
    }

    private static void setAndMove() {
        for (int a = 0; a < 4; a++) {
            for (int b = 0; b < 16; b++) {
                LaneJudge x = new LaneJudge(40);
                x.emit(0, a, b);
                for (int i = 0; i < 4; i++) {
                    int start = i == 0 ? 42 % 8 : i == 1 ? 42 / 8 : 0;
                    Due.is("SET " + a + " " + b + ": register(42, " + i + ")", x.register(42, i), i == a ? b : start);
                }
            }
        }
        LaneJudge x = new LaneJudge(40);
        x.emit(1, 3, 0);
        x.emit(1, 0, 1);
        x.emit(1, 2, 2);
        Due.is("MOVE: register(42, 0)", x.register(42, 0), 5);
        Due.is("MOVE: register(42, 1)", x.register(42, 1), 5);
        Due.is("MOVE: register(42, 2)", x.register(42, 2), 0);
        Due.is("MOVE: register(42, 3)", x.register(42, 3), 2);
    }

    /** What operations 2 to 8 give, in words of their own; -1 for a trap. */
    private static int expected(int op, int left, int right) {
        switch (op) {
            case 2: return Math.floorMod(left + right, 16);
            case 3: return Math.floorMod(left - right, 16);
            case 4: return Math.floorMod(left * right, 16);
            case 5: return right == 0 ? -1 : Math.floorDiv(left, right);
            case 6: return bitByBit(left, right, 2);
            case 7: return bitByBit(left, right, 1);
            default: return left < right ? 1 : 0;
        }
    }

    /** The bits of which so many are set in left and right together. */
    private static int bitByBit(int left, int right, int so) {
        int answer = 0;
        for (int weight = 1; weight < 16; weight *= 2) {
            int ones = left / weight % 2 + right / weight % 2;
            answer += ones == so ? weight : 0;
        }
        return answer;
    }

    private static void operationsOnAllPairs() {
        for (int op = 2; op <= 8; op++) {
            for (int left = 0; left < 16; left++) {
                for (int right = 0; right < 16; right++) {
                    LaneJudge x = new LaneJudge(40);
                    x.emit(0, 3, left);
                    x.emit(0, 1, right);
                    x.emit(op, 3, 1);
                    String what = "operation " + op + " on " + left + " and " + right;
                    int due = expected(op, left, right);
                    endsWith(what, x, 17, due < 0 ? LaneJudge.TRAPPED : LaneJudge.HALTED, 3, due < 0 ? 2 : 3);
                    Due.is(what + ": register(17, 3)", x.register(17, 3), due < 0 ? left : due);
                    Due.is(what + ": register(17, 1)", x.register(17, 1), right);
                    Due.is(what + ": register(17, 0)", x.register(17, 0), 1);
                    Due.is(what + ": register(17, 2)", x.register(17, 2), 0);
                }
            }
        }
    }

    private static void operationsOnOneRegister() {
        for (int op = 1; op <= 8; op++) {
            for (int value = 0; value < 16; value++) {
                LaneJudge x = new LaneJudge(40);
                x.emit(0, 2, value);
                x.emit(op, 2, 2);
                int due = op == 1 ? value : expected(op, value, value);
                Due.is("operation " + op + " on " + value + " with itself", x.register(0, 2), due < 0 ? 0 : due);
                Due.is("its fate", x.fate(0), due < 0 ? LaneJudge.TRAPPED : LaneJudge.HALTED);
            }
        }
    }

    /** Each register is read as a and as b, and a alone is changed. */
    private static void operationsOnEveryTwoRegisters() {
        int[] values = {12, 10, 3, 7};
        for (int op = 1; op <= 8; op++) {
            for (int a = 0; a < 4; a++) {
                for (int b = 0; b < 4; b++) {
                    LaneJudge x = new LaneJudge(40);
                    for (int i = 0; i < 4; i++) {
                        x.emit(0, i, values[i]);
                    }
                    x.emit(op, a, b);
                    int due = op == 1 ? values[b] : expected(op, values[a], values[b]);
                    for (int i = 0; i < 4; i++) {
                        Due.is("operation " + op + " on " + a + " and " + b + ": always(" + i + ")", x.always(i), i == a ? due : values[i]);
                    }
                }
            }
        }
    }

    private static void branchGoesWhereItSays() {
        for (int to = 0; to <= 12; to++) {
            LaneJudge x = new LaneJudge(2);
            x.emit(9, 0, to);
            for (int p = 1; p < 12; p++) {
                x.emit(11, 0, 0);
            }
            String what = "BRANCH 0 " + to;
            endsWith(what, x, 0, LaneJudge.HALTED, 2, 1);
            if (to == 0) {
                endsWith(what, x, 1, LaneJudge.TIRED, 2, 0);
            } else {
                endsWith(what, x, 1, LaneJudge.HALTED, to == 12 ? 1 : 2, to);
            }
        }
    }

    private static void branchReadsAnyValueButZero() {
        for (int a = 0; a < 4; a++) {
            for (int value = 0; value < 16; value++) {
                LaneJudge x = new LaneJudge(40);
                x.emit(0, a, value);
                x.emit(9, a, 3);
                x.emit(11, 0, 0);
                x.emit(11, 0, 0);
                String what = "BRANCH on register " + a + " = " + value;
                endsWith(what, x, 0, LaneJudge.HALTED, 3, value == 0 ? 2 : 3);
                Due.is(what + ": register(0, " + a + ")", x.register(0, a), value);
            }
        }
    }

    private static void branchPastTheEnd() {
        LaneJudge x = new LaneJudge(40);
        x.emit(9, 0, 12);
        endsWith("BRANCH far past the end", x, 1, LaneJudge.HALTED, 1, 12);
        endsWith("BRANCH not taken at the end", x, 8, LaneJudge.HALTED, 1, 1);
        x.patch(0, 9, 0, 1);
        endsWith("BRANCH to length()", x, 1, LaneJudge.HALTED, 1, 1);
        x.patch(0, 9, 0, 2);
        endsWith("BRANCH to length() + 1", x, 1, LaneJudge.HALTED, 1, 2);
        x.emit(11, 0, 0);
        endsWith("BRANCH to length() of 2", x, 1, LaneJudge.HALTED, 1, 2);
        x.emit(10, 2, 0);
        endsWith("BRANCH to what was past the end", x, 1, LaneJudge.FAILED, 2, 2);
    }

    private static void haltEnds() {
        for (int a = 0; a < 4; a++) {
            LaneJudge x = new LaneJudge(40);
            x.emit(0, 2, 7);
            x.emit(11, a, Integer.MIN_VALUE);
            x.emit(0, 2, 8);
            endsWith("HALT", x, 63, LaneJudge.HALTED, 2, 1);
            Due.is("HALT: register(63, 0)", x.register(63, 0), 7);
            Due.is("HALT: register(63, 1)", x.register(63, 1), 7);
            Due.is("HALT: register(63, 2)", x.register(63, 2), 7);
            Due.is("HALT: register(63, 3)", x.register(63, 3), 0);
        }
    }

    private static void divTraps() {
        LaneJudge x = new LaneJudge(40);
        x.emit(0, 3, 13);
        x.emit(5, 3, 0);
        x.emit(0, 2, 1);
        for (int k = 0; k < 64; k++) {
            boolean trapped = k % 8 == 0;
            endsWith("DIV", x, k, trapped ? LaneJudge.TRAPPED : LaneJudge.HALTED, trapped ? 2 : 3, trapped ? 1 : 3);
            Due.is("DIV: register(" + k + ", 3)", x.register(k, 3), trapped ? 13 : 13 / (k % 8));
            Due.is("DIV: register(" + k + ", 2)", x.register(k, 2), trapped ? 0 : 1);
        }
    }

    private static void claimFails() {
        for (int a = 0; a < 2; a++) {
            LaneJudge x = new LaneJudge(40);
            x.emit(10, a, Integer.MAX_VALUE);
            x.emit(0, 2, 1);
            for (int k = 0; k < 64; k++) {
                boolean failed = (a == 0 ? k % 8 : k / 8) == 0;
                endsWith("CLAIM " + a, x, k, failed ? LaneJudge.FAILED : LaneJudge.HALTED, failed ? 1 : 2, failed ? 0 : 2);
                Due.is("CLAIM: register(" + k + ", 0)", x.register(k, 0), k % 8);
                Due.is("CLAIM: register(" + k + ", 1)", x.register(k, 1), k / 8);
                Due.is("CLAIM: register(" + k + ", 2)", x.register(k, 2), failed ? 0 : 1);
            }
        }
    }

    /** The end of the program comes before the limit when both are reached at once. */
    private static void limitAgainstEnd() {
        for (int length = 1; length <= 12; length++) {
            for (int limit = 1; limit <= 13; limit++) {
                LaneJudge x = new LaneJudge(limit);
                for (int p = 0; p < length; p++) {
                    x.emit(1, 0, 0);
                }
                boolean tired = length > limit;
                int ends = tired ? limit : length;
                endsWith("limit " + limit + ", length " + length, x, 9, tired ? LaneJudge.TIRED : LaneJudge.HALTED, ends, ends);
            }
        }
    }

    /** An ending instruction is still carried out when it is the last that the limit allows, not after it. */
    private static void limitAgainstEndings() {
        int[] ops = {11, 5, 10};
        int[] fates = {LaneJudge.HALTED, LaneJudge.TRAPPED, LaneJudge.FAILED};
        for (int n = 0; n < ops.length; n++) {
            for (int limit = 1; limit <= 3; limit++) {
                LaneJudge x = new LaneJudge(limit);
                x.emit(0, 2, 0);
                x.emit(ops[n], 2, 2);
                x.emit(0, 2, 9);
                boolean tired = limit < 2;
                endsWith("operation " + ops[n] + " at limit " + limit, x, 5, tired ? LaneJudge.TIRED : fates[n], tired ? 1 : 2, 1);
            }
        }
    }

    private static void tiredPlaceAndRegisters() {
        LaneJudge x = new LaneJudge(40);
        x.emit(0, 2, 1);
        x.emit(2, 3, 2);
        x.emit(9, 2, 1);
        endsWith("a loop without end", x, 30, LaneJudge.TIRED, 40, 2);
        Due.is("a loop without end: register(30, 3)", x.register(30, 3), 20 % 16);
        LaneJudge y = new LaneJudge(39);
        y.emit(0, 2, 1);
        y.emit(2, 3, 2);
        y.emit(9, 2, 1);
        endsWith("TIRED after a BRANCH", y, 30, LaneJudge.TIRED, 39, 1);
        Due.is("TIRED after a BRANCH: register(30, 3)", y.register(30, 3), 19 % 16);
    }

    private static void answersFollowTheProgram() {
        LaneJudge x = new LaneJudge(40);
        endsWith("empty", x, 10, LaneJudge.HALTED, 0, 0);
        x.emit(2, 0, 1);
        endsWith("one instruction", x, 10, LaneJudge.HALTED, 1, 1);
        Due.is("one instruction: register(10, 0)", x.register(10, 0), 3);
        Due.is("asked again: register(10, 0)", x.register(10, 0), 3);
        x.patch(0, 10, 3, 0);
        endsWith("patched", x, 10, LaneJudge.FAILED, 1, 0);
        Due.is("patched: register(10, 0)", x.register(10, 0), 2);
        x.patch(0, 99, 0, 0);
        endsWith("a refused patch", x, 10, LaneJudge.FAILED, 1, 0);
        x.clear();
        endsWith("cleared", x, 10, LaneJudge.HALTED, 0, 0);
    }
}
