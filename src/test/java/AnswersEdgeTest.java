/** The boundary cases that promises 6 to 14 name, a sentence each. */
public final class AnswersEdgeTest extends Edges {
    private static final int[] NO_FATES = {4, 5, 11};
    private static final int[] NO_REGISTERS = {4, 5, 7, 8};
    private static final int[] NO_BITS = {6, 7, 31, 32, 33, 37, 63};
    private static final int[] FATES = {HALTED, TIRED, TRAPPED, FAILED};

    public static void main(String[] args) {
        Due.tests(
            AnswersEdgeTest::fateOfTheFirstAndTheLast,
            AnswersEdgeTest::fateOfNoInput,
            AnswersEdgeTest::stepsFromNoneToTheLimit,
            AnswersEdgeTest::stepsOfNoInput,
            AnswersEdgeTest::endAtFromNoneToTwelve,
            AnswersEdgeTest::endAtOfNoInput,
            AnswersEdgeTest::registerOfTheFirstAndTheLast,
            AnswersEdgeTest::registerOfNoInputOrNoRegister,
            AnswersEdgeTest::countFromNoneToAll,
            AnswersEdgeTest::countOfNoFate,
            AnswersEdgeTest::firstIsTheLeast,
            AnswersEdgeTest::firstOfAFateThatNoInputHas,
            AnswersEdgeTest::firstOfNoFate,
            AnswersEdgeTest::visitsAtLeastOnce,
            AnswersEdgeTest::visitsNowhere,
            AnswersEdgeTest::alwaysTheSame,
            AnswersEdgeTest::alwaysNotTheSame,
            AnswersEdgeTest::alwaysOfNoRegister,
            AnswersEdgeTest::dependsCountsEachPairOnce,
            AnswersEdgeTest::dependsWhateverTheFates,
            AnswersEdgeTest::dependsOfNoRegisterOrNoBit);
    }

    /** The last instructions that bring on a fate where register a is not 0 and register zero is 0, at position p. */
    private static int[] bringsOn(int fate, int a, int zero, int p) {
        switch (fate) {
            case TIRED: return new int[] {BRANCH, a, p};
            case TRAPPED: return new int[] {DIV, 0, zero};
            case FAILED: return new int[] {CLAIM, zero, 0};
            default: return new int[] {HALT, 0, 0};
        }
    }

    /** This fate on input 0 alone, HALTED on the others. */
    private static LaneJudge onInput0(int fate) {
        LaneJudge x = judge(40, ONLY_0);
        append(x, SET, 2, 1);
        append(x, bringsOn(fate, 2, 3, 3));
        return x;
    }

    /** This fate on input 63 alone, HALTED on the others. */
    private static LaneJudge onInput63(int fate) {
        LaneJudge x = judge(40, ONLY_63);
        append(x, bringsOn(fate, 2, 3, 8));
        return x;
    }

    /** This fate on every input. */
    private static LaneJudge onAll(int fate) {
        LaneJudge x = judge(40, SET, 2, 1);
        append(x, bringsOn(fate, 2, 3, 1));
        return x;
    }

    private static void fateOfTheFirstAndTheLast() {
        Due.sentence("Promise 6", "The fate of the run on input k;");
        for (int fate : FATES) {
            LaneJudge zero = onInput0(fate);
            LaneJudge last = onInput63(fate);
            for (int k = 0; k < 64; k++) {
                Due.is("fate " + fate + " on 0 alone: fate(" + k + ")", zero.fate(k), k == 0 ? fate : HALTED);
                Due.is("fate " + fate + " on 63 alone: fate(" + k + ")", last.fate(k), k == 63 ? fate : HALTED);
            }
        }
    }

    private static void fateOfNoInput() {
        Due.sentence("Promise 6", "-1 when k is not 0 .. 63.");
        LaneJudge x = onAll(FAILED);
        for (int k : NEVER_FITS) {
            Due.is("fate(" + k + ")", x.fate(k), -1);
        }
        Due.is("fate(0)", x.fate(0), FAILED);
        Due.is("fate(63)", x.fate(63), FAILED);
    }

    private static void stepsFromNoneToTheLimit() {
        Due.sentence("Promise 7", "How many instructions the run on input k carries out;");
        Due.is("empty: steps(0)", new LaneJudge(40).steps(0), 0);
        Due.is("empty: steps(63)", new LaneJudge(40).steps(63), 0);
        Due.is("a loop under limit 1: steps(63)", judge(1, BRANCH, 0, 0).steps(63), 1);
        Due.is("a loop under limit 40: steps(63)", judge(40, BRANCH, 0, 0).steps(63), 40);
        Due.is("a loop that input 0 does not enter: steps(0)", judge(40, BRANCH, 0, 0).steps(0), 1);
        // An instruction counts each time: register 0 = n is counted down in n rounds of two.
        LaneJudge down = judge(40, SET, 2, 1, BRANCH, 0, 3, HALT, 0, 0, SUB, 0, 2, BRANCH, 2, 1);
        for (int k = 0; k < 8; k++) {
            Due.is("a count down: steps(" + k + ")", down.steps(k), 3 + 3 * k);
        }
    }

    private static void stepsOfNoInput() {
        Due.sentence("Promise 7", "-1 when k is not 0 .. 63.");
        LaneJudge x = idle(40, 5);
        for (int k : NEVER_FITS) {
            Due.is("steps(" + k + ")", x.steps(k), -1);
        }
        Due.is("steps(0)", x.steps(0), 5);
        Due.is("steps(63)", x.steps(63), 5);
    }

    private static void endAtFromNoneToTwelve() {
        Due.sentence("Promise 8", "The position at which the run on input k ends;");
        Due.is("empty: endAt(0)", new LaneJudge(40).endAt(0), 0);
        Due.is("empty: endAt(63)", new LaneJudge(40).endAt(63), 0);
        Due.is("full: endAt(0)", idle(40, 12).endAt(0), 12);
        Due.is("full: endAt(63)", idle(40, 12).endAt(63), 12);
        LaneJudge zero = onInput0(HALTED);
        Due.is("input 0 alone: endAt(0)", zero.endAt(0), 3);
        Due.is("input 0 alone: endAt(1)", zero.endAt(1), 12);
        LaneJudge last = onInput63(HALTED);
        Due.is("input 63 alone: endAt(63)", last.endAt(63), 8);
        Due.is("input 63 alone: endAt(62)", last.endAt(62), 6);
    }

    private static void endAtOfNoInput() {
        Due.sentence("Promise 8", "-1 when k is not 0 .. 63.");
        LaneJudge x = idle(40, 5);
        for (int k : NEVER_FITS) {
            Due.is("endAt(" + k + ")", x.endAt(k), -1);
        }
        Due.is("endAt(0)", x.endAt(0), 5);
        Due.is("endAt(63)", x.endAt(63), 5);
    }

    private static void registerOfTheFirstAndTheLast() {
        Due.sentence("Promise 9", "The value of register i when the run on input k ends;");
        LaneJudge x = judge(40, SET, 2, 15, SET, 3, 1, SUB, 3, 2, MOVE, 3, 0);
        registers("the first", x, 0, 0, 0, 15, 0);
        registers("the last", x, 63, 7, 7, 15, 7);
        registers("the first of a row", x, 8, 0, 1, 15, 0);
        registers("the last of a row", x, 7, 7, 0, 15, 7);
    }

    private static void registerOfNoInputOrNoRegister() {
        Due.sentence("Promise 9", "-1 when k is not 0 .. 63 or i is not 0 .. 3.");
        LaneJudge x = judge(40, SET, 2, 9, SET, 3, 10);
        for (int n : NEVER_FITS) {
            for (int i = 0; i < 4; i++) {
                Due.is("register(" + n + ", " + i + ")", x.register(n, i), -1);
            }
            Due.is("register(0, " + n + ")", x.register(0, n), -1);
            Due.is("register(63, " + n + ")", x.register(63, n), -1);
            Due.is("register(" + n + ", " + n + ")", x.register(n, n), -1);
        }
        for (int i : NO_REGISTERS) {
            Due.is("register(0, " + i + ")", x.register(0, i), -1);
            Due.is("register(63, " + i + ")", x.register(63, i), -1);
            Due.is("register(-1, " + i + ")", x.register(-1, i), -1);
        }
        Due.is("register(1, -1)", x.register(1, -1), -1);
        Due.is("register(64, -1)", x.register(64, -1), -1);
        registers("the first that there is", x, 0, 0, 0, 9, 10);
        registers("the last that there is", x, 63, 7, 7, 9, 10);
    }

    private static void countFromNoneToAll() {
        Due.sentence("Promise 10", "How many of the 64 inputs have this fate;");
        for (int fate : FATES) {
            LaneJudge all = onAll(fate);
            for (int other : FATES) {
                Due.is("all have " + fate + ": count(" + other + ")", all.count(other), other == fate ? 64 : 0);
            }
            if (fate != HALTED) {
                Due.is("input 0 alone: count(" + fate + ")", onInput0(fate).count(fate), 1);
                Due.is("input 0 alone: count(HALTED)", onInput0(fate).count(HALTED), 63);
                Due.is("input 63 alone: count(" + fate + ")", onInput63(fate).count(fate), 1);
                Due.is("input 63 alone: count(HALTED)", onInput63(fate).count(HALTED), 63);
            }
        }
    }

    private static void countOfNoFate() {
        Due.sentence("Promise 10", "0 when there is no such fate.");
        for (int fate : FATES) {
            LaneJudge x = onAll(fate);
            for (int n : NEVER_FITS) {
                Due.is("count(" + n + ")", x.count(n), 0);
            }
            for (int n : NO_FATES) {
                Due.is("count(" + n + ")", x.count(n), 0);
            }
        }
    }

    private static void firstIsTheLeast() {
        Due.sentence("Promise 11", "The least input with this fate;");
        for (int fate : FATES) {
            Due.is("all have " + fate + ": first", onAll(fate).first(fate), 0);
            if (fate != HALTED) {
                Due.is("input 0 alone has " + fate + ": first", onInput0(fate).first(fate), 0);
                Due.is("all but input 0 are HALTED: first", onInput0(fate).first(HALTED), 1);
                Due.is("input 63 alone has " + fate + ": first", onInput63(fate).first(fate), 63);
                Due.is("all but input 63 are HALTED: first", onInput63(fate).first(HALTED), 0);
            }
        }
    }

    private static void firstOfAFateThatNoInputHas() {
        Due.sentence("Promise 11", "-1 when no input has it");
        for (int fate : FATES) {
            LaneJudge all = onAll(fate);
            for (int other : FATES) {
                Due.is("all have " + fate + ": first(" + other + ")", all.first(other), other == fate ? 0 : -1);
            }
        }
    }

    private static void firstOfNoFate() {
        Due.sentence("Promise 11", "or there is no such fate.");
        for (int fate : FATES) {
            LaneJudge x = onAll(fate);
            for (int n : NEVER_FITS) {
                Due.is("first(" + n + ")", x.first(n), -1);
            }
            for (int n : NO_FATES) {
                Due.is("first(" + n + ")", x.first(n), -1);
            }
        }
    }

    private static void visitsAtLeastOnce() {
        Due.sentence("Promise 12", "On how many inputs the run carries out the instruction at p at least once;");
        LaneJudge loop = judge(40, BRANCH, 0, 0, HALT, 0, 0);
        Due.is("forty times on 56 inputs, once on 8: visits(0)", loop.visits(0), 64);
        Due.is("on 8 inputs: visits(1)", loop.visits(1), 8);
        Due.is("on input 0 alone: visits(3)", onInput0(HALTED).visits(3), 1);
        Due.is("on input 63 alone: visits(8)", onInput63(HALTED).visits(8), 1);
        Due.is("on all but input 63: visits(6)", onInput63(HALTED).visits(6), 63);
        Due.is("on none: visits(1)", judge(40, HALT, 0, 0, SET, 2, 1).visits(1), 0);
        Due.is("first in a full program: visits(0)", idle(40, 12).visits(0), 64);
        Due.is("last in a full program: visits(11)", idle(40, 12).visits(11), 64);
        Due.is("the last that the limit allows: visits(4)", idle(5, 12).visits(4), 64);
        Due.is("where the limit stops: visits(5)", idle(5, 12).visits(5), 0);
        Due.is("a HALT that ends: visits(0)", judge(40, HALT, 0, 0).visits(0), 64);
        Due.is("a DIV that traps: visits(0)", judge(40, DIV, 0, 3).visits(0), 64);
        Due.is("a CLAIM that fails: visits(0)", judge(40, CLAIM, 3, 0).visits(0), 64);
    }

    private static void visitsNowhere() {
        Due.sentence("Promise 12", "0 when p is not 0 .. length() - 1.");
        LaneJudge empty = new LaneJudge(40);
        LaneJudge three = idle(40, 3);
        LaneJudge full = idle(40, 12);
        int[] beyond = {12, 13, 31, 32, 33, 43, 63};
        for (int n = 0; n < NEVER_FITS.length + beyond.length; n++) {
            int p = n < beyond.length ? beyond[n] : NEVER_FITS[n - beyond.length];
            Due.is("empty: visits(" + p + ")", empty.visits(p), 0);
            Due.is("three: visits(" + p + ")", three.visits(p), 0);
            Due.is("full: visits(" + p + ")", full.visits(p), 0);
        }
        Due.is("empty: visits(0)", empty.visits(0), 0);
        Due.is("three: visits(2)", three.visits(2), 64);
        Due.is("three: visits(3)", three.visits(3), 0);
        Due.is("three: visits(11)", three.visits(11), 0);
        Due.is("a BRANCH to 12: visits(12)", judge(40, BRANCH, 0, 12).visits(12), 0);
        full.clear();
        Due.is("cleared: visits(0)", full.visits(0), 0);
        append(full, HALT, 0, 0);
        Due.is("one after clear: visits(0)", full.visits(0), 64);
        Due.is("one after clear: visits(1)", full.visits(1), 0);
    }

    private static void alwaysTheSame() {
        Due.sentence("Promise 13", "The value that register i has at the end of every run, when it is the same for all 64 inputs;");
        for (int i = 0; i < 4; i++) {
            Due.is("0 for all: always(" + i + ")", judge(40, SET, i, 0).always(i), 0);
            Due.is("15 for all: always(" + i + ")", judge(40, SET, i, 15).always(i), 15);
        }
        Due.is("empty: always(2)", new LaneJudge(40).always(2), 0);
        Due.is("empty: always(3)", new LaneJudge(40).always(3), 0);
        for (int fate : FATES) {
            Due.is("all have fate " + fate + ": always(2)", onAll(fate).always(2), 1);
        }
        LaneJudge mixed = judge(40, SET, 2, 9, CLAIM, 0, 0, DIV, 2, 1, SET, 2, 9);
        Due.is("the same under three fates: always(2)", mixed.always(2), 9);
    }

    private static void alwaysNotTheSame() {
        Due.sentence("Promise 13", "else -1.");
        LaneJudge empty = new LaneJudge(40);
        Due.is("empty: always(0)", empty.always(0), -1);
        Due.is("empty: always(1)", empty.always(1), -1);
        Due.is("input 63 alone differs: always(2)", judge(40, TELLS_63).always(2), -1);
        for (int fate : FATES) {
            Due.is("input 0 alone differs, with fate " + fate + ": always(2)", onInput0(fate).always(2), -1);
            Due.is("input 63 alone differs, with fate " + fate + ": always(2)", onInput63(fate).always(2), -1);
        }
    }

    private static void alwaysOfNoRegister() {
        Due.sentence("Promise 13", "-1 when i is not 0 .. 3.");
        LaneJudge x = judge(40, SET, 0, 5, SET, 1, 5, SET, 2, 5, SET, 3, 5);
        for (int i : NEVER_FITS) {
            Due.is("always(" + i + ")", x.always(i), -1);
        }
        for (int i : NO_REGISTERS) {
            Due.is("always(" + i + ")", x.always(i), -1);
        }
        Due.is("always(0)", x.always(0), 5);
        Due.is("always(3)", x.always(3), 5);
    }

    private static void dependsCountsEachPairOnce() {
        Due.sentence("Promise 14", "the number of inputs k in which bit number bit is 0 and for which the value of register i "
            + "at the end of the run on k differs from that on k + 2^bit");
        LaneJudge empty = new LaneJudge(40);
        LaneJudge last = judge(40, TELLS_63);
        LaneJudge zero = onInput0(HALTED);
        LaneJudge far = judge(40, BRANCH, 1, 12, SET, 0, 15);
        for (int bit = 0; bit < 6; bit++) {
            Due.is("all pairs or none: depends(0, " + bit + ")", empty.depends(0, bit), bit < 3 ? 32 : 0);
            Due.is("all pairs or none: depends(1, " + bit + ")", empty.depends(1, bit), bit < 3 ? 0 : 32);
            Due.is("no pair: depends(2, " + bit + ")", empty.depends(2, bit), 0);
            Due.is("the pair of input 63: depends(2, " + bit + ")", last.depends(2, bit), 1);
            Due.is("the pair of input 0: depends(2, " + bit + ")", zero.depends(2, bit), 1);
            Due.is("a pair counts once, however far: depends(0, " + bit + ")", far.depends(0, bit), bit < 3 ? 28 : 8);
        }
    }

    private static void dependsWhateverTheFates() {
        Due.sentence("Promise 14", "whatever the fates");
        // Inputs 0 .. 7 end otherwise than the rest, with another value of register 3 or with the same.
        for (int fate : FATES) {
            LaneJudge other = judge(40, SET, 2, 1, SET, 3, 9, BRANCH, 1, 6, SUB, 3, 3);
            append(other, bringsOn(fate, 2, 3, 4));
            LaneJudge same = judge(40, SET, 2, 1, BRANCH, 1, 12);
            append(same, bringsOn(fate, 2, 3, 2));
            Due.is("count(" + fate + ")", other.count(fate), fate == HALTED ? 64 : 8);
            Due.is("count(" + fate + ")", same.count(fate), fate == HALTED ? 64 : 8);
            for (int bit = 0; bit < 6; bit++) {
                Due.is("fate " + fate + " with another value: depends(3, " + bit + ")", other.depends(3, bit), bit < 3 ? 0 : 8);
                Due.is("fate " + fate + " with the same value: depends(3, " + bit + ")", same.depends(3, bit), 0);
            }
        }
    }

    private static void dependsOfNoRegisterOrNoBit() {
        Due.sentence("Promise 14", "-1 when i is not 0 .. 3 or bit is not 0 .. 5.");
        LaneJudge x = new LaneJudge(40);
        for (int n : NEVER_FITS) {
            Due.is("depends(" + n + ", 0)", x.depends(n, 0), -1);
            Due.is("depends(" + n + ", 5)", x.depends(n, 5), -1);
            Due.is("depends(0, " + n + ")", x.depends(0, n), -1);
            Due.is("depends(3, " + n + ")", x.depends(3, n), -1);
            Due.is("depends(" + n + ", " + n + ")", x.depends(n, n), -1);
        }
        for (int i : NO_REGISTERS) {
            Due.is("depends(" + i + ", 0)", x.depends(i, 0), -1);
            Due.is("depends(" + i + ", 5)", x.depends(i, 5), -1);
            Due.is("depends(" + i + ", 6)", x.depends(i, 6), -1);
        }
        for (int bit : NO_BITS) {
            Due.is("depends(0, " + bit + ")", x.depends(0, bit), -1);
            Due.is("depends(3, " + bit + ")", x.depends(3, bit), -1);
        }
        Due.is("depends(0, 0)", x.depends(0, 0), 32);
        Due.is("depends(3, 5)", x.depends(3, 5), 0);
    }
}
