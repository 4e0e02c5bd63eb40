/** The boundary cases that promises 1 to 5 name, a sentence each. */
public final class EditingEdgeTest extends Edges {
    private static final int[] NO_OPERATIONS = {-1, 12, 13, LEAST, GREATEST};
    private static final int[] NO_REGISTERS = {-1, 4, 5, LEAST, GREATEST};

    public static void main(String[] args) {
        Due.tests(
            EditingEdgeTest::emptyAndNothingKept,
            EditingEdgeTest::limitTooSmall,
            EditingEdgeTest::limitTooLarge,
            EditingEdgeTest::emitAnswersThePosition,
            EditingEdgeTest::emitWhenFull,
            EditingEdgeTest::emitNoOperation,
            EditingEdgeTest::emitNoRegister,
            EditingEdgeTest::emitWrongB,
            EditingEdgeTest::refusedEmit,
            EditingEdgeTest::patchAtTheEnds,
            EditingEdgeTest::patchNowhere,
            EditingEdgeTest::patchAsInEmit,
            EditingEdgeTest::refusedPatch,
            EditingEdgeTest::clearEmpties,
            EditingEdgeTest::clearLeavesWhatWasKept,
            EditingEdgeTest::lengthFromEmptyToFull);
    }

    private static void emptyAndNothingKept() {
        Due.sentence("Promise 1", "An empty program, and nothing kept.");
        int[] limits = {LEAST, 0, 1, 40, 41, GREATEST};
        for (int limit : limits) {
            LaneJudge x = new LaneJudge(limit);
            Due.is("length()", x.length(), 0);
            Due.is("patch(0, HALT, 0, 0)", x.patch(0, HALT, 0, 0), -1);
            Due.is("visits(0)", x.visits(0), 0);
            Due.is("count(HALTED)", x.count(HALTED), 64);
            ends("limit " + limit, x, 0, HALTED, 0, 0);
            agrees("limit " + limit, x, -1, -1);
        }
    }

    /** A program of 42 instructions in a run, so that it ends even under a limit that was not clamped. */
    private static void limitIs(int given, int due, int endAt) {
        LaneJudge x = judge(given, SET, 3, 1, SUB, 2, 3, BRANCH, 2, 1);
        append(x, MOVE, 0, 0, MOVE, 0, 0, MOVE, 0, 0, MOVE, 0, 0, MOVE, 0, 0, MOVE, 0, 0, MOVE, 0, 0, MOVE, 0, 0, MOVE, 0, 0);
        ends("limit " + given, x, 0, TIRED, due, endAt);
    }

    private static void limitTooSmall() {
        Due.sentence("Promise 1, too small", "limit: the greatest number of instructions of a run, clamped to 1 .. 40.");
        limitIs(LEAST, 1, 1);
        limitIs(-40, 1, 1);
        limitIs(-1, 1, 1);
        limitIs(0, 1, 1);
        limitIs(1, 1, 1);
        limitIs(2, 2, 2);
        ends("limit 0 on one instruction", judge(0, SET, 2, 1), 0, HALTED, 1, 1);
        ends("limit 0 on two instructions", judge(0, SET, 2, 1, SET, 2, 2), 0, TIRED, 1, 1);
    }

    private static void limitTooLarge() {
        Due.sentence("Promise 1, too large", "limit: the greatest number of instructions of a run, clamped to 1 .. 40.");
        limitIs(39, 39, 9);
        limitIs(40, 40, 10);
        limitIs(41, 40, 10);
        limitIs(42, 40, 10);
        limitIs(512, 40, 10);
        limitIs(GREATEST, 40, 10);
    }

    private static void emitAnswersThePosition() {
        Due.sentence("Promise 2", "Appends an instruction and answers its position.");
        LaneJudge x = new LaneJudge(40);
        Due.is("the first emit", x.emit(SET, 2, 1), 0);
        Due.is("a refused emit", x.emit(SET, 2, 16), -4);
        Due.is("the second emit", x.emit(SET, 2, 2), 1);
        Due.is("always(2): the second comes after the first", x.always(2), 2);
        for (int p = 2; p < 11; p++) {
            x.emit(MOVE, 0, 0);
        }
        Due.is("the twelfth emit", x.emit(SET, 2, 12), 11);
        Due.is("always(2): the twelfth comes last", x.always(2), 12);
        x.clear();
        Due.is("the first emit after clear", x.emit(SET, 3, 1), 0);
        Due.is("always(2) after clear", x.always(2), 0);
    }

    private static void emitWhenFull() {
        Due.sentence("Promise 2", "Refused with -1 when 12 are there;");
        LaneJudge x = idle(40, 11);
        Due.is("emit when 11 are there", x.emit(MOVE, 0, 0), 11);
        Due.is("emit when 12 are there", x.emit(MOVE, 0, 0), -1);
        Due.is("emit(12, 0, 0) when 12 are there", x.emit(12, 0, 0), -1);
        Due.is("emit(-1, -1, -1) when 12 are there", x.emit(-1, -1, -1), -1);
        Due.is("emit(SET, 4, 0) when 12 are there", x.emit(SET, 4, 0), -1);
        Due.is("emit(SET, 0, 16) when 12 are there", x.emit(SET, 0, 16), -1);
        x.clear();
        Due.is("emit when 0 are there", x.emit(MOVE, 0, 0), 0);
    }

    private static void emitNoOperation() {
        Due.sentence("Promise 2", "then with -2 when op is not 0 .. 11;");
        LaneJudge x = new LaneJudge(40);
        for (int op : NO_OPERATIONS) {
            Due.is("emit(" + op + ", 0, 0)", x.emit(op, 0, 0), -2);
            Due.is("emit(" + op + ", 4, 0)", x.emit(op, 4, 0), -2);
            Due.is("emit(" + op + ", -1, 0)", x.emit(op, -1, 0), -2);
            Due.is("emit(" + op + ", 0, -1)", x.emit(op, 0, -1), -2);
            Due.is("emit(" + op + ", 4, 16)", x.emit(op, 4, 16), -2);
        }
        Due.is("emit(0, 0, 0)", x.emit(0, 0, 0), 0);
        Due.is("emit(11, 0, 0)", x.emit(11, 0, 0), 1);
        LaneJudge almost = idle(40, 11);
        Due.is("emit(12, 0, 0) when 11 are there", almost.emit(12, 0, 0), -2);
    }

    private static void emitNoRegister() {
        Due.sentence("Promise 2", "then with -3 when a is not 0 .. 3;");
        for (int op = 0; op < 12; op++) {
            LaneJudge x = new LaneJudge(40);
            for (int a : NO_REGISTERS) {
                Due.is("emit(" + op + ", " + a + ", 0)", x.emit(op, a, 0), -3);
                Due.is("emit(" + op + ", " + a + ", 16)", x.emit(op, a, 16), -3);
                Due.is("emit(" + op + ", " + a + ", -1)", x.emit(op, a, -1), -3);
            }
            Due.is("emit(" + op + ", 0, 3)", x.emit(op, 0, 3), 0);
            Due.is("emit(" + op + ", 3, 3)", x.emit(op, 3, 3), 1);
        }
    }

    private static void emitWrongB() {
        Due.sentence("Promise 2", "then with -4 when b is not as its operation asks.");
        for (int op = 0; op <= 9; op++) {
            int greatest = op == SET ? 15 : op == BRANCH ? 12 : 3;
            int[] wrong = {-1, greatest + 1, LEAST, GREATEST};
            LaneJudge x = new LaneJudge(40);
            for (int b : wrong) {
                Due.is("emit(" + op + ", 0, " + b + ")", x.emit(op, 0, b), -4);
                Due.is("emit(" + op + ", 3, " + b + ")", x.emit(op, 3, b), -4);
            }
            Due.is("emit(" + op + ", 3, 0)", x.emit(op, 3, 0), 0);
            Due.is("emit(" + op + ", 3, " + greatest + ")", x.emit(op, 3, greatest), 1);
        }
    }

    /** Three instructions; where something is kept, it is what the first of them gave alone. */
    private static LaneJudge halfway(boolean kept) {
        LaneJudge x = judge(40, SUB, 0, 1);
        if (kept) {
            x.keep();
        }
        append(x, DIV, 0, 1, BRANCH, 0, 1);
        return x;
    }

    /** The refused call against none at all: as it leaves the object, and after an edit that runs the program anew. */
    private static void leftAsItWas(String what, int[] call, int due, boolean kept) {
        for (int anew = 0; anew < 2; anew++) {
            LaneJudge x = halfway(kept);
            LaneJudge y = halfway(kept);
            int answer = call.length == 3 ? x.emit(call[0], call[1], call[2]) : x.patch(call[0], call[1], call[2], call[3]);
            Due.is(what, answer, due);
            if (anew == 1) {
                Due.is("emit after the refused " + what, x.emit(MOVE, 0, 0), 3);
                Due.is("emit without it", y.emit(MOVE, 0, 0), 3);
            }
            alike("after the refused " + what, x, y);
        }
    }

    private static void refusedEmit() {
        Due.sentence("Promise 2", "A refused call changes nothing.");
        int[][] refused = {{12, 0, 0}, {-1, 0, 0}, {SET, 4, 0}, {HALT, -1, 0}, {SET, 0, 16}, {SET, 0, -1}, {ADD, 0, 4}, {BRANCH, 0, 13}};
        int[] due = {-2, -2, -3, -3, -4, -4, -4, -4};
        for (int n = 0; n < refused.length; n++) {
            int[] call = refused[n];
            String what = "emit(" + call[0] + ", " + call[1] + ", " + call[2] + ")";
            leftAsItWas(what, call, due[n], false);
            leftAsItWas(what, call, due[n], true);
        }
        LaneJudge full = idle(40, 12);
        Due.is("emit(SET, 0, 5) when 12 are there", full.emit(SET, 0, 5), -1);
        alike("after the refused emit of a thirteenth", full, idle(40, 12));
        LaneJudge empty = new LaneJudge(40);
        Due.is("emit(SET, 0, 16) when none is there", empty.emit(SET, 0, 16), -4);
        alike("after the refused emit of a first", empty, new LaneJudge(40));
    }

    private static void patchAtTheEnds() {
        Due.sentence("Promise 3", "Replaces the instruction at p and answers p.");
        LaneJudge x = judge(40, SET, 0, 1);
        Due.is("patch(0, SET, 0, 2) of one", x.patch(0, SET, 0, 2), 0);
        alike("the only one replaced", x, judge(40, SET, 0, 2));
        int[] program = {SET, 0, 1, SET, 1, 1, SET, 2, 1};
        for (int p = 0; p < 3; p++) {
            LaneJudge y = judge(40, program);
            Due.is("patch(" + p + ", MUL, 3, 1) of three", y.patch(p, MUL, 3, 1), p);
            int[] replaced = program.clone();
            replaced[3 * p] = MUL;
            replaced[3 * p + 1] = 3;
            replaced[3 * p + 2] = 1;
            alike("number " + p + " of three replaced", y, judge(40, replaced));
        }
        LaneJudge full = idle(40, 12);
        Due.is("patch(0, HALT, 0, 0) of twelve", full.patch(0, HALT, 0, 0), 0);
        Due.is("patch(11, SET, 0, 3) of twelve", full.patch(11, SET, 0, 3), 11);
        ends("HALT at 0", full, 9, HALTED, 1, 0);
        Due.is("patch(0, MOVE, 0, 0) of twelve", full.patch(0, MOVE, 0, 0), 0);
        Due.is("always(0)", full.always(0), 3);
        Due.is("length()", full.length(), 12);
    }

    private static void patchNowhere() {
        Due.sentence("Promise 3", "Refused with -1 when p is not 0 .. length() - 1;");
        LaneJudge empty = new LaneJudge(40);
        LaneJudge three = idle(40, 3);
        LaneJudge full = idle(40, 12);
        for (int p : NEVER_FITS) {
            Due.is("empty: patch(" + p + ", SET, 0, 1)", empty.patch(p, SET, 0, 1), -1);
            Due.is("three: patch(" + p + ", SET, 0, 1)", three.patch(p, SET, 0, 1), -1);
            Due.is("full: patch(" + p + ", SET, 0, 1)", full.patch(p, SET, 0, 1), -1);
        }
        Due.is("empty: patch(0, SET, 0, 1)", empty.patch(0, SET, 0, 1), -1);
        Due.is("three: patch(3, SET, 0, 1)", three.patch(3, SET, 0, 1), -1);
        Due.is("three: patch(11, SET, 0, 1)", three.patch(11, SET, 0, 1), -1);
        Due.is("full: patch(12, SET, 0, 1)", full.patch(12, SET, 0, 1), -1);
        Due.is("three: patch(3, 12, 4, 99), which is wrong in all", three.patch(3, 12, 4, 99), -1);
        Due.is("three: patch(-1, 12, 4, 99), which is wrong in all", three.patch(-1, 12, 4, 99), -1);
        Due.is("three: patch(2, SET, 0, 1)", three.patch(2, SET, 0, 1), 2);
        Due.is("full: patch(11, SET, 0, 1)", full.patch(11, SET, 0, 1), 11);
        full.clear();
        Due.is("cleared: patch(0, SET, 0, 1)", full.patch(0, SET, 0, 1), -1);
    }

    private static void patchAsInEmit() {
        Due.sentence("Promise 3", "then as in emit with -2, -3, -4.");
        LaneJudge x = idle(40, 12);
        for (int op : NO_OPERATIONS) {
            Due.is("patch(0, " + op + ", 0, 0)", x.patch(0, op, 0, 0), -2);
            Due.is("patch(0, " + op + ", 4, 0)", x.patch(0, op, 4, 0), -2);
            Due.is("patch(11, " + op + ", 4, 16)", x.patch(11, op, 4, 16), -2);
        }
        for (int op = 0; op < 12; op++) {
            for (int a : NO_REGISTERS) {
                Due.is("patch(0, " + op + ", " + a + ", 0)", x.patch(0, op, a, 0), -3);
                Due.is("patch(11, " + op + ", " + a + ", 16)", x.patch(11, op, a, 16), -3);
            }
            int greatest = op == SET ? 15 : op == BRANCH ? 12 : 3;
            int over = op < CLAIM ? -4 : 0;
            Due.is("patch(0, " + op + ", 0, -1)", x.patch(0, op, 0, -1), over);
            Due.is("patch(0, " + op + ", 0, " + (greatest + 1) + ")", x.patch(0, op, 0, greatest + 1), over);
            Due.is("patch(0, " + op + ", 0, 0)", x.patch(0, op, 0, 0), 0);
            Due.is("patch(0, " + op + ", 3, " + greatest + ")", x.patch(0, op, 3, greatest), 0);
        }
    }

    private static void refusedPatch() {
        Due.sentence("Promise 3, what a refused call leaves", "then as in emit with -2, -3, -4.");
        int[][] refused = {{-1, SET, 0, 5}, {3, SET, 0, 5}, {0, 12, 0, 0}, {1, SET, 4, 5}, {2, SET, 0, 16}, {2, ADD, 0, 4}, {0, BRANCH, 0, 13}};
        int[] due = {-1, -1, -2, -3, -4, -4, -4};
        for (int n = 0; n < refused.length; n++) {
            int[] call = refused[n];
            String what = "patch(" + call[0] + ", " + call[1] + ", " + call[2] + ", " + call[3] + ")";
            leftAsItWas(what, call, due[n], false);
            leftAsItWas(what, call, due[n], true);
        }
    }

    private static void clearEmpties() {
        Due.sentence("Promise 4", "Makes the program empty.");
        LaneJudge empty = new LaneJudge(7);
        empty.clear();
        alike("an empty one cleared", empty, new LaneJudge(7));
        LaneJudge full = new LaneJudge(7);
        for (int p = 0; p < 12; p++) {
            append(full, CLAIM, 0, 0);
        }
        full.clear();
        alike("a full one cleared", full, new LaneJudge(7));
        Due.is("patch(0, SET, 0, 1) when cleared", full.patch(0, SET, 0, 1), -1);
        LaneJudge again = idle(7, 12);
        again.clear();
        again.clear();
        for (int p = 0; p < 12; p++) {
            Due.is("emit number " + p + " when cleared twice", again.emit(SET, 2, p), p);
        }
        Due.is("emit number 12 when cleared twice", again.emit(SET, 2, 0), -1);
        ends("limit 7 stays", again, 0, TIRED, 7, 7);
    }

    private static void clearLeavesWhatWasKept() {
        Due.sentence("Promise 4", "What was kept stays.");
        LaneJudge x = judge(40, SET, 0, 9);
        x.keep();
        x.clear();
        agrees("cleared", x, 0, 0);
        append(x, SET, 0, 9);
        agrees("the kept program again", x, 64, -1);
        x.clear();
        x.clear();
        append(x, SET, 0, 9);
        agrees("the kept program a third time", x, 64, -1);
        LaneJudge nothing = judge(40, SET, 0, 9);
        nothing.clear();
        agrees("nothing kept, and cleared", nothing, -1, -1);
    }

    private static void lengthFromEmptyToFull() {
        Due.sentence("Promise 5", "The number of instructions.");
        LaneJudge x = new LaneJudge(1);
        Due.is("length() of a new object", x.length(), 0);
        x.emit(HALT, 4, 0);
        Due.is("length() after a refused emit", x.length(), 0);
        for (int p = 0; p < 12; p++) {
            append(x, HALT, 0, 0);
            Due.is("length() after emit number " + p, x.length(), p + 1);
        }
        x.emit(HALT, 0, 0);
        Due.is("length() after a thirteenth emit", x.length(), 12);
        x.patch(11, SET, 0, 0);
        Due.is("length() after patch", x.length(), 12);
        x.patch(12, SET, 0, 0);
        Due.is("length() after a refused patch", x.length(), 12);
        x.clear();
        Due.is("length() after clear", x.length(), 0);
        x.clear();
        Due.is("length() after a second clear", x.length(), 0);
    }
}
