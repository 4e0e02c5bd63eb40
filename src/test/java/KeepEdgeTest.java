/** The boundary cases that promises 15 to 17 name, a sentence each. */
public final class KeepEdgeTest extends Edges {
    /** Programs that bring on each fate on every input and leave register 0 as it was, by fate. */
    private static final int[][] OF_FATE = {
        {SET, 2, 1, HALT, 0, 0}, {SET, 2, 1, BRANCH, 2, 1}, {SET, 2, 1, DIV, 2, 3}, {SET, 2, 1, CLAIM, 3, 0},
    };

    public static void main(String[] args) {
        Due.tests(
            KeepEdgeTest::keepsAllInputs,
            KeepEdgeTest::keepsFateAndRegister0,
            KeepEdgeTest::keepsInPlaceOfTheOld,
            KeepEdgeTest::keepChangesNoProgram,
            KeepEdgeTest::agreeingByFate,
            KeepEdgeTest::agreeingByRegister0WhenHalted,
            KeepEdgeTest::agreeingByFateAloneOtherwise,
            KeepEdgeTest::agreeingWithNothingKept,
            KeepEdgeTest::differenceIsTheLeast,
            KeepEdgeTest::differenceWhenAllAgree,
            KeepEdgeTest::differenceWithNothingKept);
    }

    private static LaneJudge kept(int... program) {
        LaneJudge x = judge(40, program);
        x.keep();
        return x;
    }

    private static void replace(LaneJudge x, int... program) {
        x.clear();
        append(x, program);
    }

    private static void keepsAllInputs() {
        Due.sentence("Promise 15", "Keeps, for each of the 64 inputs, the fate and the value of register 0 at the end of its run");
        LaneJudge last = kept(TELLS_63);
        agrees("all as kept", last, 64, -1);
        append(last, ADD, 0, 2);
        agrees("input 63 alone with another register 0", last, 63, 63);
        last.keep();
        agrees("all as kept anew", last, 64, -1);
        replace(last);
        agrees("input 63 alone kept with another register 0", last, 63, 63);
        LaneJudge zero = kept();
        agrees("an empty program kept", zero, 64, -1);
        append(zero, ONLY_0);
        append(zero, SET, 0, 15);
        agrees("input 0 alone with another register 0", zero, 63, 0);
        zero.keep();
        replace(zero);
        agrees("input 0 alone kept with another register 0", zero, 63, 0);
        LaneJudge failing = kept(ONLY_63);
        append(failing, CLAIM, 3, 0);
        agrees("input 63 alone with another fate", failing, 63, 63);
    }

    private static void keepsFateAndRegister0() {
        Due.sentence("Promise 15", "the fate and the value of register 0 at the end");
        LaneJudge x = kept();
        append(x, SET, 1, 15, SET, 2, 15, SET, 3, 15);
        agrees("registers 1, 2 and 3 are not kept", x, 64, -1);
        append(x, SET, 0, 3);
        agrees("register 0 at the end, not at the start", x, 8, 0);
        replace(x, BRANCH, 0, 12, HALT, 0, 0);
        agrees("steps and positions are not kept", x, 64, -1);
    }

    private static void keepsInPlaceOfTheOld() {
        Due.sentence("Promise 15", "in place of what was kept before");
        LaneJudge x = kept(SET, 0, 15);
        replace(x, SET, 0, 0);
        x.keep();
        agrees("against the second that was kept", x, 64, -1);
        replace(x, SET, 0, 15);
        agrees("against the second, with the first", x, 0, 0);
        for (int first = 0; first < 4; first++) {
            for (int second = 0; second < 4; second++) {
                LaneJudge y = kept(OF_FATE[first]);
                replace(y, OF_FATE[second]);
                y.keep();
                agrees("fate " + first + ", then " + second + " kept", y, 64, -1);
                replace(y, OF_FATE[first]);
                boolean same = first == second;
                agrees("fate " + first + " against " + second, y, same ? 64 : 0, same ? -1 : 0);
            }
        }
        LaneJudge twice = kept(SET, 0, 4);
        twice.keep();
        agrees("the same kept twice", twice, 64, -1);
    }

    private static void keepChangesNoProgram() {
        Due.sentence("Terms, of what keep leaves", "All the answers below are for the program as it is now.");
        int[] steps = {2, 40, 2, 2};
        for (int fate = 0; fate < 4; fate++) {
            LaneJudge x = kept(OF_FATE[fate]);
            x.agreeing();
            x.difference();
            Due.is("length() after keep", x.length(), 2);
            Due.is("count(" + fate + ") after keep", x.count(fate), 64);
            Due.is("visits(1) after keep", x.visits(1), 64);
            ends("after keep", x, 62, fate, steps[fate], 1);
            registers("after keep", x, 62, 6, 7, 1, 0);
            LaneJudge twice = kept(OF_FATE[fate]);
            twice.keep();
            alike("kept twice and once", twice, kept(OF_FATE[fate]));
            Due.is("emit after keep", x.emit(HALT, 0, 0), 2);
        }
    }

    private static void agreeingByFate() {
        Due.sentence("Promise 16", "the fate is the kept one");
        for (int then = 0; then < 4; then++) {
            for (int now = 0; now < 4; now++) {
                LaneJudge x = kept(OF_FATE[then]);
                Due.is("count(" + then + ")", x.count(then), 64);
                replace(x, OF_FATE[now]);
                Due.is("kept fate " + then + ", now " + now + ": agreeing()", x.agreeing(), then == now ? 64 : 0);
            }
        }
    }

    private static void agreeingByRegister0WhenHalted() {
        Due.sentence("Promise 16", "when that is HALTED the value of register 0 at the end is the kept one too");
        int[] values = {0, 1, 8, 15};
        for (int then : values) {
            for (int now : values) {
                LaneJudge x = kept(SET, 0, then);
                replace(x, SET, 0, now, HALT, 0, 0);
                Due.is("kept " + then + ", now " + now + ": agreeing()", x.agreeing(), then == now ? 64 : 0);
            }
        }
        LaneJudge one = kept();
        append(one, SET, 0, 7);
        Due.is("k mod 8 kept, now 7: agreeing()", one.agreeing(), 8);
    }

    private static void agreeingByFateAloneOtherwise() {
        Due.sentence("Promise 16", "(for the other fates the register does not matter)");
        for (int fate = 1; fate < 4; fate++) {
            LaneJudge x = judge(40, SET, 0, 0);
            append(x, OF_FATE[fate]);
            // One more instruction before it: a BRANCH has to name its own position 2.
            if (fate == TIRED) {
                x.patch(2, BRANCH, 2, 2);
            }
            Due.is("count(" + fate + ")", x.count(fate), 64);
            x.keep();
            x.patch(0, SET, 0, 15);
            Due.is("always(0)", x.always(0), 15);
            Due.is("fate " + fate + ", 0 kept, now 15: agreeing()", x.agreeing(), 64);
        }
    }

    private static void agreeingWithNothingKept() {
        Due.sentence("Promise 16", "-1 when nothing was ever kept.");
        LaneJudge x = new LaneJudge(40);
        Due.is("new: agreeing()", x.agreeing(), -1);
        append(x, SET, 0, 15);
        Due.is("after emit: agreeing()", x.agreeing(), -1);
        x.patch(0, SET, 0, 14);
        x.emit(12, 0, 0);
        Due.is("after patch and a refused emit: agreeing()", x.agreeing(), -1);
        x.clear();
        Due.is("after clear: agreeing()", x.agreeing(), -1);
        x.keep();
        Due.is("the empty program kept: agreeing()", x.agreeing(), 64);
        append(x, SET, 0, 15);
        Due.is("kept, but agreeing on none: agreeing()", x.agreeing(), 0);
        x.clear();
        Due.is("kept before clear: agreeing()", x.agreeing(), 64);
    }

    private static void differenceIsTheLeast() {
        Due.sentence("Promise 17", "The least input on which the program does not agree with what is kept;");
        LaneJudge x = kept();
        append(x, SET, 0, 15);
        Due.is("on none: difference()", x.difference(), 0);
        replace(x, SET, 0, 0);
        Due.is("on 0, 8, 16 ..: difference()", x.difference(), 1);
        replace(x, BRANCH, 1, 2, HALT, 0, 0, SET, 0, 15);
        Due.is("on 0 .. 7: difference()", x.difference(), 8);
        replace(x, ONLY_0);
        append(x, CLAIM, 2, 0);
        Due.is("on all but 0: difference()", x.difference(), 0);
        replace(x, ONLY_63);
        append(x, SET, 0, 6);
        Due.is("on all but 63, by register 0: difference()", x.difference(), 63);
        replace(x, ONLY_63);
        append(x, DIV, 0, 3);
        Due.is("on all but 63, by fate: difference()", x.difference(), 63);
    }

    private static void differenceWhenAllAgree() {
        Due.sentence("Promise 17", "-1 when it agrees on all");
        for (int fate = 0; fate < 4; fate++) {
            LaneJudge x = kept(OF_FATE[fate]);
            Due.is("fate " + fate + " kept: difference()", x.difference(), -1);
            replace(x);
            Due.is("fate " + fate + " kept, now HALTED: difference()", x.difference(), fate == HALTED ? -1 : 0);
            replace(x, OF_FATE[fate]);
            Due.is("fate " + fate + " again: difference()", x.difference(), -1);
        }
    }

    private static void differenceWithNothingKept() {
        Due.sentence("Promise 17", "or nothing was ever kept.");
        LaneJudge x = new LaneJudge(40);
        Due.is("new: difference()", x.difference(), -1);
        append(x, SET, 0, 15);
        Due.is("after emit: difference()", x.difference(), -1);
        replace(x, CLAIM, 3, 0);
        Due.is("after clear and emit: difference()", x.difference(), -1);
        x.keep();
        x.clear();
        Due.is("FAILED kept, now HALTED: difference()", x.difference(), 0);
    }
}
