/** Promises 15 to 17: keep, agreeing, difference. */
public final class KeepTest {
    public static void main(String[] args) {
        nothingKept();
        keptAndUnchanged();
        keepTakesThePlaceOfTheOld();
        registerMattersWhenHalted();
        registerDoesNotMatterOtherwise();
        fateMatters();
        onlyRegisterZeroMatters();
        stepsAndPositionsDoNotMatter();
        lastInputIsLookedAt();
        keptIsNotMovedByEdits();
        Due.end();
    }

    private static void agrees(String what, LaneJudge x, int agreeing, int difference) {
        Due.is(what + ": agreeing()", x.agreeing(), agreeing);
        Due.is(what + ": difference()", x.difference(), difference);
    }

    private static void nothingKept() {
        LaneJudge x = new LaneJudge(40);
        agrees("nothing kept", x, -1, -1);
        x.emit(0, 0, 1);
        agrees("nothing kept after emit", x, -1, -1);
        x.patch(0, 0, 0, 2);
        x.clear();
        agrees("nothing kept after clear", x, -1, -1);
    }

    private static void keptAndUnchanged() {
        LaneJudge x = new LaneJudge(40);
        x.keep();
        agrees("the empty program kept", x, 64, -1);
        x.emit(5, 0, 1);
        x.keep();
        agrees("a trapping program kept", x, 64, -1);
        x.keep();
        agrees("kept twice", x, 64, -1);
    }

    private static void keepTakesThePlaceOfTheOld() {
        LaneJudge x = new LaneJudge(40);
        x.keep();
        x.emit(0, 0, 5);
        agrees("against the empty program", x, 8, 0);
        x.keep();
        agrees("against itself", x, 64, -1);
        x.clear();
        agrees("the empty program against it", x, 8, 0);
    }

    private static void registerMattersWhenHalted() {
        LaneJudge x = new LaneJudge(40);
        x.keep();
        x.emit(6, 0, 1);
        int due = 0;
        int least = -1;
        for (int k = 0; k < 64; k++) {
            boolean same = (k % 8 & k / 8) == k % 8;
            due += same ? 1 : 0;
            least = !same && least < 0 ? k : least;
        }
        agrees("AND against the empty program", x, due, least);
        Due.is("its least difference", least, 1);
    }

    private static void registerDoesNotMatterOtherwise() {
        int[][] endings = {{5, 2, 2}, {10, 2, 0}, {9, 3, 1}};
        int[] fates = {LaneJudge.TRAPPED, LaneJudge.FAILED, LaneJudge.TIRED};
        for (int n = 0; n < endings.length; n++) {
            LaneJudge x = new LaneJudge(40);
            x.emit(0, 3, 1);
            x.emit(endings[n][0], endings[n][1], endings[n][2]);
            Due.is("count(" + fates[n] + ")", x.count(fates[n]), 64);
            x.keep();
            x.clear();
            x.emit(0, 3, 1);
            x.emit(endings[n][0], endings[n][1], endings[n][2]);
            x.patch(0, 0, 0, 9);
            if (fates[n] == LaneJudge.TIRED) {
                x.patch(1, 9, 0, 1);
            }
            Due.is("another register 0", x.always(0), 9);
            agrees("fate " + fates[n] + " with another register 0", x, 64, -1);
        }
    }

    private static void fateMatters() {
        LaneJudge x = new LaneJudge(40);
        x.emit(11, 0, 0);
        x.keep();
        x.patch(0, 10, 1, 0);
        agrees("HALTED kept, FAILED now on 0 .. 7", x, 56, 0);
        x.keep();
        x.patch(0, 5, 2, 1);
        agrees("FAILED kept, TRAPPED now on 0 .. 7", x, 56, 0);
        x.patch(0, 10, 0, 0);
        // FAILED both: 0. FAILED kept and HALTED now: 1 .. 7. HALTED kept and FAILED now: 8, 16 .. 56.
        agrees("FAILED kept, HALTED now on 1 .. 7", x, 50, 1);
        x.patch(0, 11, 0, 0);
        agrees("FAILED kept, HALTED now on 0 .. 7", x, 56, 0);
        LaneJudge y = new LaneJudge(1);
        y.emit(11, 0, 0);
        y.keep();
        y.patch(0, 9, 0, 0);
        agrees("HALTED kept, TIRED now but for 0, 8 ..", y, 8, 1);
    }

    private static void onlyRegisterZeroMatters() {
        LaneJudge x = new LaneJudge(40);
        x.keep();
        x.emit(0, 1, 9);
        x.emit(0, 2, 9);
        x.emit(0, 3, 9);
        agrees("other registers changed", x, 64, -1);
    }

    private static void stepsAndPositionsDoNotMatter() {
        LaneJudge x = new LaneJudge(40);
        x.keep();
        x.emit(1, 2, 0);
        x.emit(9, 0, 12);
        x.emit(11, 0, 0);
        agrees("another way to the same end", x, 64, -1);
    }

    private static void lastInputIsLookedAt() {
        LaneJudge x = new LaneJudge(40);
        x.keep();
        x.emit(0, 2, 6);
        x.emit(8, 2, 0);
        x.emit(0, 3, 6);
        x.emit(8, 3, 1);
        x.emit(6, 2, 3);
        x.emit(2, 0, 2);
        agrees("input 63 alone differs", x, 63, 63);
    }

    private static void keptIsNotMovedByEdits() {
        LaneJudge x = new LaneJudge(40);
        x.emit(0, 0, 3);
        x.keep();
        x.patch(0, 0, 0, 4);
        agrees("after patch", x, 0, 0);
        x.emit(0, 0, 3);
        agrees("after emit", x, 64, -1);
        x.emit(12, 0, 0);
        x.patch(5, 0, 0, 0);
        agrees("after refused calls", x, 64, -1);
        x.clear();
        agrees("after clear", x, 8, 0);
        x.emit(0, 0, 3);
        agrees("the kept program again", x, 64, -1);
    }
}
