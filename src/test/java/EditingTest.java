/** Promises 1 to 5: a new object, emit, patch, clear, length. */
public final class EditingTest {
    private static final int[] WRONG_OPS = {-1, 12, Integer.MIN_VALUE, Integer.MAX_VALUE};
    private static final int[] WRONG_AS = {-1, 4, Integer.MIN_VALUE, Integer.MAX_VALUE};

    public static void main(String[] args) {
        newObjectIsEmpty();
        limitIsClamped();
        emitAnswersPositions();
        emitTakesEveryFittingB();
        emitRefuses();
        refusalsComeInOrder();
        refusedEmitChangesNothing();
        patchReplaces();
        patchRefuses();
        clearEmpties();
        objectsAreApart();
        Due.end();
    }

    /** The greatest b of an operation that has one. */
    static int greatestB(int op) {
        return op == 0 ? 15 : op == 9 ? 12 : 3;
    }

    static boolean anyB(int op) {
        return op == 10 || op == 11;
    }

    private static void newObjectIsEmpty() {
        LaneJudge x = new LaneJudge(40);
        Due.is("new: length()", x.length(), 0);
        Due.is("new: agreeing()", x.agreeing(), -1);
        Due.is("new: difference()", x.difference(), -1);
        for (int k = 0; k < 64; k++) {
            Due.is("new: fate(" + k + ")", x.fate(k), LaneJudge.HALTED);
            Due.is("new: steps(" + k + ")", x.steps(k), 0);
            Due.is("new: endAt(" + k + ")", x.endAt(k), 0);
            Due.is("new: register(" + k + ", 0)", x.register(k, 0), k % 8);
            Due.is("new: register(" + k + ", 1)", x.register(k, 1), k / 8);
            Due.is("new: register(" + k + ", 2)", x.register(k, 2), 0);
            Due.is("new: register(" + k + ", 3)", x.register(k, 3), 0);
        }
    }

    private static void limitIsClamped() {
        int[] limits = {Integer.MIN_VALUE, -1, 0, 1, 2, 20, 39, 40, 41, 100, Integer.MAX_VALUE};
        int[] due = {1, 1, 1, 1, 2, 20, 39, 40, 40, 40, 40};
        for (int n = 0; n < limits.length; n++) {
            LaneJudge x = new LaneJudge(limits[n]);
            // 33 instructions of a loop and nine more: a limit that was not clamped would show, and not hang.
            x.emit(0, 3, 1);
            x.emit(3, 2, 3);
            x.emit(9, 2, 1);
            for (int p = 3; p < 12; p++) {
                x.emit(1, 0, 0);
            }
            Due.is("limit " + limits[n] + ": steps(5)", x.steps(5), due[n]);
            Due.is("limit " + limits[n] + ": fate(5)", x.fate(5), LaneJudge.TIRED);
        }
    }

    private static void emitAnswersPositions() {
        LaneJudge x = new LaneJudge(40);
        for (int p = 0; p < 12; p++) {
            Due.is("emit number " + p, x.emit(2, 2, 0), p);
            Due.is("length() after it", x.length(), p + 1);
        }
        Due.is("emit number 12", x.emit(2, 2, 0), -1);
        Due.is("length() after it", x.length(), 12);
        Due.is("steps(0)", x.steps(0), 12);
        Due.is("register(3, 2)", x.register(3, 2), 36 % 16);
    }

    private static void emitTakesEveryFittingB() {
        for (int op = 0; op < 12; op++) {
            for (int a = 0; a < 4; a++) {
                int greatest = greatestB(op);
                for (int b = 0; b <= greatest; b++) {
                    LaneJudge x = new LaneJudge(40);
                    Due.is("emit(" + op + ", " + a + ", " + b + ")", x.emit(op, a, b), 0);
                }
            }
        }
        int[] any = {Integer.MIN_VALUE, -1, 4, 16, Integer.MAX_VALUE};
        LaneJudge x = new LaneJudge(40);
        for (int n = 0; n < any.length; n++) {
            Due.is("emit(10, 0, " + any[n] + ")", x.emit(10, 0, any[n]), 2 * n);
            Due.is("emit(11, 3, " + any[n] + ")", x.emit(11, 3, any[n]), 2 * n + 1);
        }
    }

    private static void emitRefuses() {
        LaneJudge x = new LaneJudge(40);
        for (int op : WRONG_OPS) {
            Due.is("emit(" + op + ", 0, 0)", x.emit(op, 0, 0), -2);
        }
        for (int op = 0; op < 12; op++) {
            for (int a : WRONG_AS) {
                Due.is("emit(" + op + ", " + a + ", 0)", x.emit(op, a, 0), -3);
            }
            if (!anyB(op)) {
                int[] wrong = {-1, greatestB(op) + 1, Integer.MIN_VALUE, Integer.MAX_VALUE};
                for (int b : wrong) {
                    Due.is("emit(" + op + ", 3, " + b + ")", x.emit(op, 3, b), -4);
                }
            }
        }
        Due.is("length() after refusals alone", x.length(), 0);
    }

    private static void refusalsComeInOrder() {
        LaneJudge x = new LaneJudge(40);
        Due.is("emit(12, 4, 99)", x.emit(12, 4, 99), -2);
        Due.is("emit(0, 4, 99)", x.emit(0, 4, 99), -3);
        Due.is("emit(0, 3, 99)", x.emit(0, 3, 99), -4);
        Due.is("patch(0, 12, 4, 99) when empty", x.patch(0, 12, 4, 99), -1);
        for (int n = 0; n < 12; n++) {
            x.emit(11, 0, 0);
        }
        Due.is("emit(12, 4, 99) when full", x.emit(12, 4, 99), -1);
        Due.is("emit(0, 4, 99) when full", x.emit(0, 4, 99), -1);
        Due.is("emit(0, 3, 99) when full", x.emit(0, 3, 99), -1);
        Due.is("patch(12, 12, 4, 99) when full", x.patch(12, 12, 4, 99), -1);
        Due.is("patch(11, 12, 4, 99) when full", x.patch(11, 12, 4, 99), -2);
        Due.is("patch(11, 0, 4, 99) when full", x.patch(11, 0, 4, 99), -3);
        Due.is("patch(11, 0, 3, 99) when full", x.patch(11, 0, 3, 99), -4);
        Due.is("patch(11, 0, 3, 9) when full", x.patch(11, 0, 3, 9), 11);
    }

    private static void refusedEmitChangesNothing() {
        LaneJudge x = new LaneJudge(40);
        x.emit(0, 2, 5);
        x.emit(12, 0, 0);
        x.emit(0, 4, 0);
        x.emit(0, 2, 16);
        Due.is("length() after refused emits", x.length(), 1);
        Due.is("always(2) after refused emits", x.always(2), 5);
        Due.is("emit(0, 3, 7) after refused emits", x.emit(0, 3, 7), 1);
        Due.is("always(3)", x.always(3), 7);
        for (int n = 2; n < 12; n++) {
            x.emit(1, 0, 0);
        }
        x.emit(0, 2, 9);
        Due.is("always(2) after a thirteenth emit", x.always(2), 5);
        Due.is("steps(63) after a thirteenth emit", x.steps(63), 12);
    }

    private static void patchReplaces() {
        LaneJudge x = new LaneJudge(40);
        x.emit(0, 2, 5);
        x.emit(0, 3, 6);
        x.emit(0, 0, 7);
        Due.is("patch(1, 2, 2, 2)", x.patch(1, 2, 2, 2), 1);
        Due.is("length() after patch", x.length(), 3);
        Due.is("always(2) after patch", x.always(2), 10);
        Due.is("always(3) after patch", x.always(3), 0);
        Due.is("always(0) after patch", x.always(0), 7);
        Due.is("patch(2, 11, 0, -9)", x.patch(2, 11, 0, -9), 2);
        Due.is("endAt(9)", x.endAt(9), 2);
        Due.is("register(9, 0)", x.register(9, 0), 1);
        Due.is("patch(0, 0, 2, 15)", x.patch(0, 0, 2, 15), 0);
        Due.is("always(2)", x.always(2), 14);
    }

    private static void patchRefuses() {
        LaneJudge x = new LaneJudge(40);
        Due.is("patch(0, 0, 0, 0) when empty", x.patch(0, 0, 0, 0), -1);
        x.emit(0, 2, 5);
        x.emit(0, 3, 6);
        int[] wrongPositions = {-1, 2, 11, 12, Integer.MIN_VALUE, Integer.MAX_VALUE};
        for (int p : wrongPositions) {
            Due.is("patch(" + p + ", 0, 2, 1)", x.patch(p, 0, 2, 1), -1);
        }
        for (int op : WRONG_OPS) {
            Due.is("patch(0, " + op + ", 2, 1)", x.patch(0, op, 2, 1), -2);
        }
        for (int op = 0; op < 12; op++) {
            for (int a : WRONG_AS) {
                Due.is("patch(0, " + op + ", " + a + ", 1)", x.patch(0, op, a, 1), -3);
            }
            if (!anyB(op)) {
                Due.is("patch(0, " + op + ", 2, -1)", x.patch(0, op, 2, -1), -4);
                int over = greatestB(op) + 1;
                Due.is("patch(0, " + op + ", 2, " + over + ")", x.patch(0, op, 2, over), -4);
            }
        }
        Due.is("length() after refused patches", x.length(), 2);
        Due.is("always(2) after refused patches", x.always(2), 5);
        Due.is("always(3) after refused patches", x.always(3), 6);
    }

    private static void clearEmpties() {
        LaneJudge x = new LaneJudge(3);
        x.clear();
        Due.is("length() after clear of an empty program", x.length(), 0);
        x.emit(0, 0, 9);
        x.emit(11, 0, 0);
        x.keep();
        x.clear();
        Due.is("length() after clear", x.length(), 0);
        Due.is("steps(5) after clear", x.steps(5), 0);
        Due.is("endAt(5) after clear", x.endAt(5), 0);
        Due.is("register(5, 0) after clear", x.register(5, 0), 5);
        Due.is("visits(0) after clear", x.visits(0), 0);
        Due.is("patch(0, 0, 0, 1) after clear", x.patch(0, 0, 0, 1), -1);
        Due.is("agreeing() after clear", x.agreeing(), 0);
        Due.is("difference() after clear", x.difference(), 0);
        Due.is("emit(0, 0, 9) after clear", x.emit(0, 0, 9), 0);
        Due.is("agreeing() with what was kept before clear", x.agreeing(), 64);
        x.clear();
        for (int p = 0; p < 12; p++) {
            Due.is("emit number " + p + " after clear", x.emit(2, 0, 0), p);
        }
        Due.is("the limit stays after clear: steps(0)", x.steps(0), 3);
    }

    private static void objectsAreApart() {
        LaneJudge x = new LaneJudge(40);
        LaneJudge y = new LaneJudge(2);
        x.emit(0, 0, 9);
        x.keep();
        Due.is("the other object's length()", y.length(), 0);
        Due.is("the other object's agreeing()", y.agreeing(), -1);
        Due.is("the other object's register(1, 0)", y.register(1, 0), 1);
        Due.is("always(0)", x.always(0), 9);
    }
}
