/** The boundary cases that the document names under "What it is" and "Terms", a sentence each. */
public final class TermsEdgeTest extends Edges {
    public static void main(String[] args) {
        Due.tests(
            TermsEdgeTest::fiveHundredAndTwelveCalls,
            TermsEdgeTest::laterCallsEnd,
            TermsEdgeTest::twelveInstructions,
            TermsEdgeTest::fourRegistersOfSixteenValues,
            TermsEdgeTest::twelveOperations,
            TermsEdgeTest::firstNumberIsARegister,
            TermsEdgeTest::setRange,
            TermsEdgeTest::addWraps,
            TermsEdgeTest::subWraps,
            TermsEdgeTest::mulWraps,
            TermsEdgeTest::divTraps,
            TermsEdgeTest::divRoundsDown,
            TermsEdgeTest::lessOfEqualValues,
            TermsEdgeTest::branchNotZero,
            TermsEdgeTest::branchRange,
            TermsEdgeTest::claimFails,
            TermsEdgeTest::claimAnyB,
            TermsEdgeTest::haltAnyB,
            TermsEdgeTest::secondNumberIsARegister,
            TermsEdgeTest::oneRegisterTwice,
            TermsEdgeTest::nextPosition,
            TermsEdgeTest::start,
            TermsEdgeTest::positionAtOrPastTheEnd,
            TermsEdgeTest::limitReached,
            TermsEdgeTest::firstThatApplies,
            TermsEdgeTest::countsAsOne,
            TermsEdgeTest::haltEnds,
            TermsEdgeTest::divEnds,
            TermsEdgeTest::claimEnds,
            TermsEdgeTest::stays,
            TermsEdgeTest::asItIsNow);
    }

    private static void fiveHundredAndTwelveCalls() {
        Due.sentence("What it is", "An object is used for at most 512 calls after it has been made");
        LaneJudge asked = judge(40, SET, 0, 0);
        for (int call = 2; call <= 511; call++) {
            Due.is("call " + call + ": patch", asked.patch(0, SET, 0, call % 16), 0);
        }
        Due.is("call 512: always(0)", asked.always(0), 511 % 16);
        LaneJudge edited = new LaneJudge(40);
        for (int call = 1; call <= 510; call += 2) {
            Due.is("call " + call + ": emit", edited.emit(HALT, 0, 0), 0);
            edited.clear();
        }
        Due.is("call 511: emit", edited.emit(HALT, 0, 0), 0);
        Due.is("call 512: emit", edited.emit(HALT, 0, 0), 1);
        LaneJudge kept = new LaneJudge(40);
        for (int call = 1; call <= 511; call++) {
            kept.keep();
        }
        Due.is("call 512: agreeing()", kept.agreeing(), 64);
    }

    /** Free answers, but LANGUAGE.md (7) lets no call throw or fail to end. */
    private static void laterCallsEnd() {
        Due.sentence("What it is", "what later calls answer is free");
        LaneJudge x = new LaneJudge(40);
        int calls = 0;
        for (int round = 0; round < 20; round++) {
            for (int n : NEVER_FITS) {
                callAll(x, n, round % 12);
                callAll(x, round % 12, n);
                calls += 32;
            }
        }
        Due.holds("calls after the 512th were made", calls > 512);
    }

    private static void callAll(LaneJudge x, int n, int m) {
        x.emit(n, m, m);
        x.emit(m, 0, n);
        x.patch(n, m, m, m);
        x.patch(m, m, 3, n);
        x.fate(n);
        x.steps(n);
        x.endAt(n);
        x.register(n, m);
        x.count(n);
        x.first(n);
        x.visits(n);
        x.always(n);
        x.depends(n, m);
        x.keep();
        x.agreeing();
        x.difference();
    }

    private static void twelveInstructions() {
        Due.sentence("Terms", "a list of at most 12 instructions at positions 0, 1, 2 ..");
        LaneJudge x = new LaneJudge(40);
        for (int p = 0; p < 12; p++) {
            Due.is("emit number " + p, x.emit(ADD, 2, 0), p);
        }
        Due.is("emit number 12", x.emit(ADD, 2, 0), -1);
        Due.is("length()", x.length(), 12);
        ends("twelve instructions", x, 1, HALTED, 12, 12);
        Due.is("twelve times 1: register(1, 2)", x.register(1, 2), 12);
        for (int p = 0; p < 12; p++) {
            Due.is("visits(" + p + ")", x.visits(p), 64);
        }
    }

    private static void fourRegistersOfSixteenValues() {
        Due.sentence("Terms", "There are four registers 0 .. 3, each with a value 0 .. 15.");
        for (int i = 0; i < 4; i++) {
            LaneJudge x = judge(40, SET, i, 15);
            Due.is("register(0, " + i + ") set to 15", x.register(0, i), 15);
            Due.is("always(" + i + ") set to 15", x.always(i), 15);
        }
        for (int op = ADD; op <= XOR; op++) {
            LaneJudge x = judge(40, op, 0, 1, op, 1, 0, BRANCH, 0, 0, BRANCH, 1, 0);
            boolean held = true;
            for (int k = 0; k < 64; k++) {
                for (int i = 0; i < 4; i++) {
                    int value = x.register(k, i);
                    held &= value >= 0 && value <= 15;
                }
            }
            Due.holds("operation " + op + " again and again leaves values 0 .. 15", held);
        }
    }

    private static void twelveOperations() {
        Due.sentence("Terms", "An instruction is an operation 0 .. 11");
        LaneJudge x = new LaneJudge(40);
        Due.is("emit(-1, 0, 0)", x.emit(-1, 0, 0), -2);
        Due.is("emit(12, 0, 0)", x.emit(12, 0, 0), -2);
        for (int op = 0; op < 12; op++) {
            Due.is("emit(" + op + ", 0, 0)", x.emit(op, 0, 0), op);
        }
    }

    private static void firstNumberIsARegister() {
        Due.sentence("Terms", "a always names a register (0 .. 3)");
        for (int op = 0; op < 12; op++) {
            LaneJudge x = new LaneJudge(40);
            Due.is("emit(" + op + ", -1, 0)", x.emit(op, -1, 0), -3);
            Due.is("emit(" + op + ", 4, 0)", x.emit(op, 4, 0), -3);
            Due.is("emit(" + op + ", 0, 0)", x.emit(op, 0, 0), 0);
            Due.is("emit(" + op + ", 3, 0)", x.emit(op, 3, 0), 1);
        }
    }

    private static void setRange() {
        Due.sentence("Terms, SET", "register a becomes b (b is 0 .. 15)");
        LaneJudge x = new LaneJudge(40);
        Due.is("emit(SET, 2, -1)", x.emit(SET, 2, -1), -4);
        Due.is("emit(SET, 2, 16)", x.emit(SET, 2, 16), -4);
        Due.is("emit(SET, 2, 15)", x.emit(SET, 2, 15), 0);
        Due.is("always(2) after SET 15", x.always(2), 15);
        Due.is("emit(SET, 2, 0)", x.emit(SET, 2, 0), 1);
        Due.is("always(2) after SET 0", x.always(2), 0);
    }

    private static void addWraps() {
        Due.sentence("Terms, ADD", "register a becomes (register a + register b) mod 16");
        gives(ADD, 0, 0, 0);
        gives(ADD, 7, 8, 15);
        gives(ADD, 8, 8, 0);
        gives(ADD, 15, 1, 0);
        gives(ADD, 1, 15, 0);
        gives(ADD, 15, 15, 14);
    }

    private static void subWraps() {
        Due.sentence("Terms, SUB", "register a becomes (register a - register b + 16) mod 16");
        gives(SUB, 0, 0, 0);
        gives(SUB, 15, 15, 0);
        gives(SUB, 15, 0, 15);
        gives(SUB, 0, 1, 15);
        gives(SUB, 0, 15, 1);
        gives(SUB, 7, 8, 15);
    }

    private static void mulWraps() {
        Due.sentence("Terms, MUL", "register a becomes (register a * register b) mod 16");
        gives(MUL, 15, 0, 0);
        gives(MUL, 0, 15, 0);
        gives(MUL, 3, 5, 15);
        gives(MUL, 4, 4, 0);
        gives(MUL, 8, 15, 8);
        gives(MUL, 15, 15, 1);
    }

    private static void divTraps() {
        Due.sentence("Terms, DIV", "traps when register b is 0");
        for (int left = 0; left <= 15; left += 15) {
            LaneJudge zero = judge(40, SET, 2, left, SET, 3, 0, DIV, 2, 3);
            Due.is(left + " / 0: count(TRAPPED)", zero.count(TRAPPED), 64);
            LaneJudge one = judge(40, SET, 2, left, SET, 3, 1, DIV, 2, 3);
            Due.is(left + " / 1: count(TRAPPED)", one.count(TRAPPED), 0);
        }
    }

    private static void divRoundsDown() {
        Due.sentence("Terms, DIV", "otherwise register a becomes register a / register b, rounded down");
        gives(DIV, 0, 1, 0);
        gives(DIV, 0, 15, 0);
        gives(DIV, 1, 2, 0);
        gives(DIV, 14, 15, 0);
        gives(DIV, 15, 15, 1);
        gives(DIV, 15, 8, 1);
        gives(DIV, 15, 2, 7);
        gives(DIV, 15, 1, 15);
    }

    private static void lessOfEqualValues() {
        Due.sentence("Terms, LESS", "register a becomes 1 when register a < register b, else 0");
        gives(LESS, 0, 0, 0);
        gives(LESS, 15, 15, 0);
        gives(LESS, 0, 1, 1);
        gives(LESS, 14, 15, 1);
        gives(LESS, 0, 15, 1);
        gives(LESS, 1, 0, 0);
        gives(LESS, 15, 14, 0);
    }

    private static void branchNotZero() {
        Due.sentence("Terms, BRANCH", "when register a is not 0 the run goes on at position b, else at the next position");
        int[] values = {0, 1, 2, 8, 15};
        for (int value : values) {
            LaneJudge x = judge(40, SET, 3, value, BRANCH, 3, 3, HALT, 0, 0, HALT, 0, 0);
            ends("BRANCH on " + value, x, 63, HALTED, 3, value == 0 ? 2 : 3);
            registers("BRANCH on " + value, x, 63, 7, 7, 0, value);
        }
    }

    private static void branchRange() {
        Due.sentence("Terms, BRANCH", "(b is 0 .. 12)");
        LaneJudge x = new LaneJudge(40);
        Due.is("emit(BRANCH, 0, -1)", x.emit(BRANCH, 0, -1), -4);
        Due.is("emit(BRANCH, 0, 13)", x.emit(BRANCH, 0, 13), -4);
        Due.is("emit(BRANCH, 0, 12)", x.emit(BRANCH, 0, 12), 0);
        ends("BRANCH to 12", x, 1, HALTED, 1, 12);
        Due.is("emit(BRANCH, 1, 0)", x.emit(BRANCH, 1, 0), 1);
        ends("BRANCH to 0", x, 8, TIRED, 40, 0);
    }

    private static void claimFails() {
        Due.sentence("Terms, CLAIM", "fails when register a is 0; otherwise nothing changes");
        int[] values = {0, 1, 15};
        for (int value : values) {
            LaneJudge x = judge(40, SET, 3, value, CLAIM, 3, 0);
            Due.is("CLAIM on " + value + ": count(FAILED)", x.count(FAILED), value == 0 ? 64 : 0);
            registers("CLAIM on " + value, x, 62, 6, 7, 0, value);
        }
    }

    private static void claimAnyB() {
        Due.sentence("Terms, CLAIM", "(b is not used and may be any int)");
        anyB(CLAIM);
    }

    private static void haltAnyB() {
        Due.sentence("Terms, HALT", "(b is not used and may be any int)");
        anyB(HALT);
    }

    private static void anyB(int op) {
        int[] any = {LEAST, -1, 3, 4, 12, 13, 15, 16, GREATEST};
        for (int b : any) {
            LaneJudge x = new LaneJudge(40);
            Due.is("emit(" + op + ", 0, " + b + ")", x.emit(op, 0, b), 0);
            Due.is("patch(0, " + op + ", 0, " + b + ")", x.patch(0, op, 0, b), 0);
            alike("operation " + op + " with b = " + b, x, judge(40, op, 0, 0));
        }
    }

    private static void secondNumberIsARegister() {
        Due.sentence("Terms", "In operations 1 to 8 the number b names a register (0 .. 3)");
        for (int op = 1; op <= 8; op++) {
            LaneJudge x = new LaneJudge(40);
            Due.is("emit(" + op + ", 1, -1)", x.emit(op, 1, -1), -4);
            Due.is("emit(" + op + ", 1, 4)", x.emit(op, 1, 4), -4);
            Due.is("emit(" + op + ", 1, 0)", x.emit(op, 1, 0), 0);
            Due.is("emit(" + op + ", 1, 3)", x.emit(op, 1, 3), 1);
        }
    }

    private static void oneRegisterTwice() {
        Due.sentence("Terms", "a and b may be equal, and both old values are read first");
        int[] values = {1, 2, 8, 15};
        int[][] due = {
            {}, {1, 2, 8, 15}, {2, 4, 0, 14}, {0, 0, 0, 0}, {1, 4, 0, 1}, {1, 1, 1, 1}, {1, 2, 8, 15}, {0, 0, 0, 0}, {0, 0, 0, 0},
        };
        for (int op = 1; op <= 8; op++) {
            for (int n = 0; n < values.length; n++) {
                for (int i = 0; i < 4; i++) {
                    LaneJudge x = judge(40, SET, i, values[n], op, i, i);
                    Due.is("operation " + op + " on register " + i + " = " + values[n] + " with itself", x.always(i), due[op][n]);
                }
            }
        }
    }

    private static void nextPosition() {
        Due.sentence("Terms", "Every operation but BRANCH and HALT goes on at the next position.");
        for (int op = 0; op < 12; op++) {
            if (op != BRANCH && op != HALT) {
                LaneJudge x = judge(40, op, 0, 1, HALT, 0, 0, HALT, 0, 0);
                ends("operation " + op, x, 63, HALTED, 2, 1);
            }
        }
    }

    private static void start() {
        Due.sentence("Terms", "Input k (0 .. 63) starts at position 0 with register 0 = k mod 8, register 1 = k / 8, "
            + "registers 2 and 3 = 0 and no instruction carried out.");
        int[][] starts = {{0, 0, 0}, {1, 1, 0}, {7, 7, 0}, {8, 0, 1}, {55, 7, 6}, {56, 0, 7}, {63, 7, 7}};
        LaneJudge x = new LaneJudge(1);
        for (int[] at : starts) {
            ends("empty", x, at[0], HALTED, 0, 0);
            registers("empty", x, at[0], at[1], at[2], 0, 0);
        }
        // What one run leaves in the registers is not there when the next begins.
        LaneJudge after = judge(40, ADD, 2, 0, ADD, 3, 1, SET, 0, 15, SET, 1, 15);
        for (int[] at : starts) {
            registers("after other runs", after, at[0], 15, 15, at[1], at[2]);
        }
    }

    private static void positionAtOrPastTheEnd() {
        Due.sentence("Terms", "the position is length() or more: the run ends, fate HALTED;");
        ends("no instruction", new LaneJudge(40), 9, HALTED, 0, 0);
        ends("the end is reached", judge(40, SET, 2, 1), 9, HALTED, 1, 1);
        ends("a BRANCH to length()", judge(40, BRANCH, 0, 2, HALT, 0, 0), 9, HALTED, 1, 2);
        ends("a BRANCH past length()", judge(40, BRANCH, 0, 3, HALT, 0, 0), 9, HALTED, 1, 3);
        ends("a BRANCH to 12", judge(40, BRANCH, 0, 12, HALT, 0, 0), 9, HALTED, 1, 12);
        LaneJudge last = judge(40, BRANCH, 0, 1, CLAIM, 2, 0);
        ends("a BRANCH to length() - 1", last, 9, FAILED, 2, 1);
        ends("twelve instructions", idle(40, 12), 9, HALTED, 12, 12);
    }

    private static void limitReached() {
        Due.sentence("Terms", "limit instructions were carried out: the run ends, fate TIRED;");
        ends("limit 1 of 2", idle(1, 2), 9, TIRED, 1, 1);
        ends("limit 11 of 12", idle(11, 12), 9, TIRED, 11, 11);
        ends("limit 1 on a loop", judge(1, BRANCH, 0, 0), 9, TIRED, 1, 0);
        ends("limit 40 on a loop", judge(40, BRANCH, 0, 0), 9, TIRED, 40, 0);
        LaneJudge three = judge(3, SET, 2, 1, SET, 2, 2, SET, 2, 3, SET, 2, 4);
        ends("limit 3", three, 9, TIRED, 3, 3);
        Due.is("limit 3: the third is carried out, the fourth not", three.register(9, 2), 3);
    }

    private static void firstThatApplies() {
        Due.sentence("Terms", "Then, again and again, by the first that applies:");
        ends("limit 1 of 1", idle(1, 1), 9, HALTED, 1, 1);
        ends("limit 12 of 12", idle(12, 12), 9, HALTED, 12, 12);
        ends("limit 2, then a BRANCH past the end", judge(2, SET, 2, 1, BRANCH, 2, 12, HALT, 0, 0), 9, HALTED, 2, 12);
        // One SET, then two instructions for each of 16 rounds: the 33rd goes past the end.
        int[] loop = {SET, 3, 1, SUB, 2, 3, BRANCH, 2, 1};
        ends("a loop of 33 under limit 32", judge(32, loop), 9, TIRED, 32, 2);
        ends("a loop of 33 under limit 33", judge(33, loop), 9, HALTED, 33, 3);
        ends("a loop of 33 under limit 34", judge(34, loop), 9, HALTED, 33, 3);
        LaneJudge longer = judge(40, loop);
        append(longer, MOVE, 0, 0, MOVE, 0, 0, MOVE, 0, 0, MOVE, 0, 0, MOVE, 0, 0, MOVE, 0, 0, MOVE, 0, 0);
        ends("40 instructions under limit 40", longer, 9, HALTED, 40, 10);
        append(longer, MOVE, 0, 0);
        ends("41 instructions under limit 40", longer, 9, TIRED, 40, 10);
        // The limit comes before the instruction that would have ended the run.
        ends("limit 1, then HALT", judge(1, SET, 2, 0, HALT, 0, 0), 9, TIRED, 1, 1);
        ends("limit 1, then DIV by 0", judge(1, SET, 2, 0, DIV, 0, 2), 9, TIRED, 1, 1);
        ends("limit 1, then CLAIM of 0", judge(1, SET, 2, 0, CLAIM, 2, 0), 9, TIRED, 1, 1);
    }

    private static void countsAsOne() {
        Due.sentence("Terms", "otherwise the instruction at the position is carried out, which counts as one in every case:");
        for (int op = 0; op < 12; op++) {
            Due.is("operation " + op + " alone: steps(9)", judge(40, op, 0, 1).steps(9), 1);
            Due.is("operation " + op + " alone: visits(0)", judge(40, op, 0, 1).visits(0), 64);
        }
        Due.is("DIV that traps: steps(0)", judge(40, DIV, 0, 1).steps(0), 1);
        Due.is("CLAIM that fails: steps(0)", judge(40, CLAIM, 0, 0).steps(0), 1);
        Due.is("BRANCH that stays: steps(0)", judge(40, BRANCH, 0, 0).steps(0), 1);
        Due.is("BRANCH that goes: steps(1)", judge(40, BRANCH, 0, 12).steps(1), 1);
        Due.is("MOVE to itself: steps(0)", judge(40, MOVE, 0, 0).steps(0), 1);
    }

    private static void haltEnds() {
        Due.sentence("Terms", "HALT: the run ends, fate HALTED;");
        int[] program = {SET, 2, 1, HALT, 0, 0, CLAIM, 3, 0};
        ends("HALT", judge(40, program), 0, HALTED, 2, 1);
        ends("HALT as the last that the limit allows", judge(2, program), 0, HALTED, 2, 1);
        ends("HALT alone under limit 1", judge(1, HALT, 0, 0), 0, HALTED, 1, 0);
        registers("HALT", judge(40, program), 63, 7, 7, 1, 0);
    }

    private static void divEnds() {
        Due.sentence("Terms", "DIV with register b = 0: the run ends, fate TRAPPED, no register changes;");
        int[] program = {SET, 2, 13, DIV, 2, 3, SET, 1, 9};
        ends("DIV by 0", judge(40, program), 62, TRAPPED, 2, 1);
        registers("DIV by 0", judge(40, program), 62, 6, 7, 13, 0);
        ends("DIV by 0 as the last that the limit allows", judge(2, program), 62, TRAPPED, 2, 1);
        ends("DIV by 0 as the last instruction", judge(40, DIV, 0, 3), 62, TRAPPED, 1, 0);
        ends("DIV of 0 by itself", judge(40, DIV, 3, 3), 62, TRAPPED, 1, 0);
        registers("DIV of 0 by itself", judge(40, DIV, 3, 3), 62, 6, 7, 0, 0);
        LaneJudge some = judge(40, DIV, 0, 1);
        ends("DIV by k / 8 = 0", some, 7, TRAPPED, 1, 0);
        ends("DIV by k / 8 = 1", some, 8, HALTED, 1, 1);
    }

    private static void claimEnds() {
        Due.sentence("Terms", "CLAIM with register a = 0: the run ends, fate FAILED;");
        int[] program = {SET, 2, 13, CLAIM, 3, 0, SET, 1, 9};
        ends("CLAIM of 0", judge(40, program), 62, FAILED, 2, 1);
        registers("CLAIM of 0", judge(40, program), 62, 6, 7, 13, 0);
        ends("CLAIM of 0 as the last that the limit allows", judge(2, program), 62, FAILED, 2, 1);
        ends("CLAIM of 0 as the last instruction", judge(40, CLAIM, 3, 0), 62, FAILED, 1, 0);
        LaneJudge some = judge(40, CLAIM, 1, 0);
        ends("CLAIM of k / 8 = 0", some, 7, FAILED, 1, 0);
        ends("CLAIM of k / 8 = 1", some, 8, HALTED, 1, 1);
    }

    private static void stays() {
        Due.sentence("Terms", "When a run ends it stays at its position: that of the HALT, DIV or CLAIM that ended it, "
            + "or else the position where it would have gone on.");
        int[] ending = {HALT, DIV, CLAIM};
        for (int op : ending) {
            Due.is("operation " + op + " at 0: endAt(9)", judge(40, op, 2, 2).endAt(9), 0);
            LaneJudge last = idle(40, 11);
            append(last, op, 2, 2);
            Due.is("operation " + op + " at 11: endAt(9)", last.endAt(9), 11);
        }
        Due.is("past the end: endAt(9)", idle(40, 12).endAt(9), 12);
        Due.is("BRANCH past the end: endAt(9)", judge(40, BRANCH, 0, 7).endAt(9), 7);
        Due.is("BRANCH that stays, at the end: endAt(0)", judge(40, BRANCH, 0, 7).endAt(0), 1);
        Due.is("tired after a BRANCH: endAt(9)", judge(1, BRANCH, 0, 2, HALT, 0, 0, HALT, 0, 0).endAt(9), 2);
        Due.is("tired after a BRANCH that stays: endAt(0)", judge(1, BRANCH, 0, 2, HALT, 0, 0, HALT, 0, 0).endAt(0), 1);
        Due.is("tired after a BRANCH to itself: endAt(9)", judge(5, BRANCH, 0, 0).endAt(9), 0);
        Due.is("tired after a MOVE: endAt(9)", idle(5, 12).endAt(9), 5);
    }

    private static void asItIsNow() {
        Due.sentence("Terms", "All the answers below are for the program as it is now.");
        LaneJudge x = judge(40, BRANCH, 0, 3);
        ends("a BRANCH to 3 of a program of 1", x, 9, HALTED, 1, 3);
        append(x, HALT, 0, 0, HALT, 0, 0);
        ends("a BRANCH to 3 of a program of 3", x, 9, HALTED, 1, 3);
        append(x, SET, 2, 5);
        ends("a BRANCH to 3 of a program of 4", x, 9, HALTED, 2, 4);
        Due.is("after emit: register(9, 2)", x.register(9, 2), 5);
        x.patch(3, CLAIM, 2, 0);
        ends("after patch", x, 9, FAILED, 2, 3);
        Due.is("after patch: count(FAILED)", x.count(FAILED), 56);
        Due.is("after patch: first(FAILED)", x.first(FAILED), 1);
        Due.is("after patch: visits(3)", x.visits(3), 56);
        Due.is("after patch: always(2)", x.always(2), 0);
        Due.is("after patch: depends(2, 0)", x.depends(2, 0), 0);
        x.clear();
        alike("after clear", x, new LaneJudge(40));
        LaneJudge once = idle(40, 3);
        Due.is("before patch: visits(2)", once.visits(2), 64);
        once.patch(1, HALT, 0, 0);
        Due.is("no longer carried out after patch: visits(2)", once.visits(2), 0);
    }
}
