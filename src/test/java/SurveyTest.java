/** Promises 10 to 14: count, first, visits, always, depends. */
public final class SurveyTest {
    private static final int[] NO_FATES = {-1, 4, 5, Integer.MIN_VALUE, Integer.MAX_VALUE};
    private static final int[] NO_REGISTERS = {-1, 4, 5, Integer.MIN_VALUE, Integer.MAX_VALUE};
    private static final int[] NO_BITS = {-1, 6, 31, 32, 33, Integer.MIN_VALUE, Integer.MAX_VALUE};

    public static void main(String[] args) {
        constants();
        countAndFirstOfAnEmptyProgram();
        countAndFirstOfAllFates();
        firstIsLeast();
        visitsOfPositions();
        visitsCountInputsNotTimes();
        visitsOfEndingInstructions();
        visitsUnderTheLimit();
        alwaysTheSame();
        alwaysLooksAtEveryInput();
        dependsOnBits();
        dependsWhateverTheFates();
        dependsRefuses();
        Due.end();
    }

    private static void constants() {
        Due.is("HALTED", LaneJudge.HALTED, 0);
        Due.is("TIRED", LaneJudge.TIRED, 1);
        Due.is("TRAPPED", LaneJudge.TRAPPED, 2);
        Due.is("FAILED", LaneJudge.FAILED, 3);
    }

    private static void noSuchFates(LaneJudge x) {
        for (int fate : NO_FATES) {
            Due.is("count(" + fate + ")", x.count(fate), 0);
            Due.is("first(" + fate + ")", x.first(fate), -1);
        }
    }

    private static void fateIs(String what, LaneJudge x, int fate, int count, int first) {
        Due.is(what + ": count(" + fate + ")", x.count(fate), count);
        Due.is(what + ": first(" + fate + ")", x.first(fate), first);
    }

    private static void countAndFirstOfAnEmptyProgram() {
        LaneJudge x = new LaneJudge(1);
        fateIs("empty", x, LaneJudge.HALTED, 64, 0);
        fateIs("empty", x, LaneJudge.TIRED, 0, -1);
        fateIs("empty", x, LaneJudge.TRAPPED, 0, -1);
        fateIs("empty", x, LaneJudge.FAILED, 0, -1);
        noSuchFates(x);
    }

    /** Register 1 = 0 fails (8 inputs), then register 0 = 0 traps (7), then register 0 = 1 runs for ever (7). */
    private static void countAndFirstOfAllFates() {
        LaneJudge x = new LaneJudge(40);
        x.emit(10, 1, 0);
        x.emit(0, 2, 1);
        x.emit(5, 2, 0);
        x.emit(9, 2, 3);
        fateIs("all fates", x, LaneJudge.FAILED, 8, 0);
        fateIs("all fates", x, LaneJudge.TRAPPED, 7, 8);
        fateIs("all fates", x, LaneJudge.TIRED, 7, 9);
        fateIs("all fates", x, LaneJudge.HALTED, 42, 10);
        noSuchFates(x);
    }

    private static void firstIsLeast() {
        LaneJudge x = new LaneJudge(40);
        x.emit(0, 2, 7);
        x.emit(3, 2, 0);
        x.emit(0, 3, 7);
        x.emit(3, 3, 1);
        x.emit(9, 2, 12);
        x.emit(9, 3, 12);
        x.emit(10, 2, 0);
        fateIs("the last input alone fails", x, LaneJudge.FAILED, 1, 63);
        fateIs("the last input alone fails", x, LaneJudge.HALTED, 63, 0);
    }

    private static void visitsOfPositions() {
        LaneJudge x = new LaneJudge(40);
        Due.is("empty: visits(0)", x.visits(0), 0);
        x.emit(9, 0, 2);
        x.emit(11, 0, 0);
        x.emit(9, 1, 4);
        x.emit(11, 0, 0);
        x.emit(11, 0, 0);
        int[] due = {64, 8, 56, 7, 49};
        for (int p = 0; p < due.length; p++) {
            Due.is("visits(" + p + ")", x.visits(p), due[p]);
        }
        int[] none = {-1, 5, 11, 12, 31, 32, 33, 64, Integer.MIN_VALUE, Integer.MAX_VALUE};
        for (int p : none) {
            Due.is("visits(" + p + ")", x.visits(p), 0);
        }
        x.patch(0, 9, 0, 12);
        Due.is("branched over: visits(2)", x.visits(2), 0);
        Due.is("branched past the end: visits(5)", x.visits(5), 0);
        LaneJudge full = new LaneJudge(40);
        for (int p = 0; p < 12; p++) {
            full.emit(1, 0, 0);
        }
        Due.is("a full program: visits(11)", full.visits(11), 64);
        Due.is("a full program: visits(12)", full.visits(12), 0);
    }

    private static void visitsCountInputsNotTimes() {
        LaneJudge x = new LaneJudge(40);
        x.emit(0, 2, 1);
        x.emit(9, 0, 4);
        x.emit(11, 0, 0);
        x.emit(11, 0, 0);
        x.emit(3, 0, 2);
        x.emit(9, 2, 1);
        Due.is("a loop: visits(0)", x.visits(0), 64);
        Due.is("a loop: visits(1)", x.visits(1), 64);
        Due.is("a loop: visits(2)", x.visits(2), 64);
        Due.is("a loop: visits(3)", x.visits(3), 0);
        Due.is("a loop: visits(4)", x.visits(4), 56);
        Due.is("a loop: visits(5)", x.visits(5), 56);
    }

    /** An instruction that ends the run was carried out, so it was visited. */
    private static void visitsOfEndingInstructions() {
        LaneJudge x = new LaneJudge(40);
        x.emit(10, 0, 0);
        x.emit(5, 0, 1);
        x.emit(11, 0, 0);
        x.emit(0, 0, 0);
        Due.is("CLAIM: visits(0)", x.visits(0), 64);
        Due.is("DIV: visits(1)", x.visits(1), 56);
        Due.is("HALT: visits(2)", x.visits(2), 49);
        Due.is("after HALT: visits(3)", x.visits(3), 0);
    }

    private static void visitsUnderTheLimit() {
        LaneJudge x = new LaneJudge(3);
        for (int p = 0; p < 5; p++) {
            x.emit(1, 0, 0);
        }
        Due.is("limit 3: visits(2)", x.visits(2), 64);
        Due.is("limit 3: visits(3)", x.visits(3), 0);
        Due.is("limit 3: visits(4)", x.visits(4), 0);
    }

    private static void alwaysTheSame() {
        LaneJudge x = new LaneJudge(40);
        Due.is("empty: always(0)", x.always(0), -1);
        Due.is("empty: always(1)", x.always(1), -1);
        Due.is("empty: always(2)", x.always(2), 0);
        Due.is("empty: always(3)", x.always(3), 0);
        x.emit(0, 0, 15);
        x.emit(7, 1, 1);
        x.emit(0, 2, 4);
        Due.is("always(0)", x.always(0), 15);
        Due.is("always(1)", x.always(1), 0);
        Due.is("always(2)", x.always(2), 4);
        for (int i : NO_REGISTERS) {
            Due.is("always(" + i + ")", x.always(i), -1);
        }
        LaneJudge fates = new LaneJudge(40);
        fates.emit(0, 3, 6);
        fates.emit(10, 0, 0);
        fates.emit(5, 0, 1);
        Due.is("the same under different fates: always(3)", fates.always(3), 6);
    }

    /** One input alone ends with another value: input 63 first, then input 0. */
    private static void alwaysLooksAtEveryInput() {
        LaneJudge last = new LaneJudge(40);
        last.emit(0, 2, 6);
        last.emit(8, 2, 0);
        last.emit(0, 3, 6);
        last.emit(8, 3, 1);
        last.emit(6, 2, 3);
        Due.is("register(63, 2)", last.register(63, 2), 1);
        Due.is("register(62, 2)", last.register(62, 2), 0);
        Due.is("input 63 alone: always(2)", last.always(2), -1);
        LaneJudge zero = new LaneJudge(40);
        zero.emit(9, 0, 12);
        zero.emit(9, 1, 12);
        zero.emit(0, 2, 1);
        Due.is("register(0, 2)", zero.register(0, 2), 1);
        Due.is("register(1, 2)", zero.register(1, 2), 0);
        Due.is("input 0 alone: always(2)", zero.always(2), -1);
    }

    private static void dependsOnBits() {
        LaneJudge x = new LaneJudge(40);
        for (int bit = 0; bit < 6; bit++) {
            Due.is("empty: depends(0, " + bit + ")", x.depends(0, bit), bit < 3 ? 32 : 0);
            Due.is("empty: depends(1, " + bit + ")", x.depends(1, bit), bit < 3 ? 0 : 32);
            Due.is("empty: depends(2, " + bit + ")", x.depends(2, bit), 0);
            Due.is("empty: depends(3, " + bit + ")", x.depends(3, bit), 0);
        }
        // Register 2 tells whether k is 63: one pair for each bit.
        x.emit(0, 2, 6);
        x.emit(8, 2, 0);
        x.emit(0, 3, 6);
        x.emit(8, 3, 1);
        x.emit(6, 2, 3);
        for (int bit = 0; bit < 6; bit++) {
            Due.is("k = 63: depends(2, " + bit + ")", x.depends(2, bit), 1);
            Due.is("6 < k / 8: depends(3, " + bit + ")", x.depends(3, bit), bit < 3 ? 0 : 8);
        }
        // Register 2 = register 0 < 4: only bit 2 matters; register 3 = 0 < register 0.
        x.clear();
        x.emit(1, 2, 0);
        x.emit(8, 3, 0);
        x.emit(0, 1, 4);
        x.emit(8, 2, 1);
        int[] second = {0, 0, 32, 0, 0, 0};
        int[] third = {8, 8, 8, 0, 0, 0};
        for (int bit = 0; bit < 6; bit++) {
            Due.is("k mod 8 < 4: depends(2, " + bit + ")", x.depends(2, bit), second[bit]);
            Due.is("0 < k mod 8: depends(3, " + bit + ")", x.depends(3, bit), third[bit]);
            Due.is("a constant: depends(1, " + bit + ")", x.depends(1, bit), 0);
        }
    }

    /** Where register 1 is 0 the run traps, but register 0 keeps what it had and is compared all the same. */
    private static void dependsWhateverTheFates() {
        LaneJudge x = new LaneJudge(40);
        x.emit(5, 0, 1);
        Due.is("DIV: count(2)", x.count(LaneJudge.TRAPPED), 8);
        // Bit 3 pairs the rows k / 8 = 0 and 1, 2 and 3 .. : the trapped row 0 has k mod 8 itself.
        int differing = 0;
        for (int row = 0; row < 8; row += 2) {
            for (int value = 0; value < 8; value++) {
                int low = row == 0 ? value : value / row;
                int high = value / (row + 1);
                differing += low != high ? 1 : 0;
            }
        }
        Due.is("DIV: depends(0, 3)", x.depends(0, 3), differing);
        x.patch(0, 10, 1, 0);
        x.emit(0, 0, 3);
        // A failed run keeps 0 .. 7, a good one ends with 3: seven of eight values differ.
        Due.is("CLAIM: depends(0, 3)", x.depends(0, 3), 7);
        Due.is("CLAIM: depends(0, 5)", x.depends(0, 5), 7);
        Due.is("CLAIM: depends(0, 0)", x.depends(0, 0), 4);
    }

    private static void dependsRefuses() {
        LaneJudge x = new LaneJudge(40);
        for (int i : NO_REGISTERS) {
            Due.is("depends(" + i + ", 0)", x.depends(i, 0), -1);
            Due.is("depends(" + i + ", 5)", x.depends(i, 5), -1);
            Due.is("depends(" + i + ", 6)", x.depends(i, 6), -1);
        }
        for (int bit : NO_BITS) {
            Due.is("depends(0, " + bit + ")", x.depends(0, bit), -1);
            Due.is("depends(3, " + bit + ")", x.depends(3, bit), -1);
        }
    }
}
