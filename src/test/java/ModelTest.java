import java.util.Arrays;
import java.util.List;

/** All promises together: a fixed sequence of edits, each followed by every question, against Model. */
public final class ModelTest {
    private static final int OBJECTS = 400;
    private static final int EDITS = 30;

    /** A fixed sequence of numbers, the same in every run of this test. */
    private static long state = 20261115L;

    private static int next(int bound) {
        state = state * 6364136223846793005L + 1442695040888963407L;
        return (int) ((state >>> 33) % bound);
    }

    /** How often each fate was met, so that the sequence can't fall out one-sided unseen. */
    private static final int[] fates = new int[4];

    public static void main(String[] args) {
        for (int n = 0; n < OBJECTS; n++) {
            oneObject(n);
        }
        for (int fate = 0; fate < 4; fate++) {
            Due.holds("the sequence has runs of fate " + fate, fates[fate] > 1000);
        }
        everyProgramOfOneInstruction();
        questionsChangeNothing();
        Due.end();
    }

    private static void oneObject(int n) {
        int limit = next(50) - 4;
        Model m = new Model(limit);
        LaneJudge x = new LaneJudge(limit);
        for (int e = 0; e < EDITS; e++) {
            edit("object " + n + ", edit " + e, m, x);
            // A new object on the same program would hide a stale answer, so x is asked itself;
            // the questions are spread out to stay within its 512 calls.
            if (e % 10 == 9) {
                askSome("object " + n + ", after edit " + e, m, x);
            }
        }
    }

    private static void edit(String when, Model m, LaneJudge x) {
        int op = next(20) == 0 ? next(16) - 2 : next(12);
        int a = next(25) == 0 ? next(8) - 2 : next(4);
        int b = next(12) == 0 ? next(20) - 2 : op == 0 ? next(16) : op == 9 ? next(13) : next(4);
        int p = next(14) - 1;
        String call = "(" + op + ", " + a + ", " + b + ")";
        int choice = next(40);
        if (choice == 0) {
            m.clear();
            x.clear();
        } else if (choice < 4) {
            m.keep();
            x.keep();
        } else if (choice < 16) {
            Due.is(when + ": patch at " + p + " " + call, x.patch(p, op, a, b), m.patch(p, op, a, b));
        } else {
            Due.is(when + ": emit" + call, x.emit(op, a, b), m.emit(op, a, b));
        }
        Due.is(when + ": length()", x.length(), m.length());
    }

    private static void askSome(String when, Model m, LaneJudge x) {
        List<Model.Ending> runs = m.runs();
        for (int q = 0; q < 12; q++) {
            askInput(when, x, next(64), runs);
        }
        askSurvey(when, x, runs);
        askKept(when, m, x, runs);
    }

    private static void askInput(String when, LaneJudge x, int k, List<Model.Ending> runs) {
        Model.Ending due = runs.get(k);
        fates[due.fate()]++;
        Due.is(when + ": fate(" + k + ")", x.fate(k), due.fate());
        Due.is(when + ": steps(" + k + ")", x.steps(k), due.steps());
        Due.is(when + ": endAt(" + k + ")", x.endAt(k), due.position());
        for (int i = 0; i < 4; i++) {
            Due.is(when + ": register(" + k + ", " + i + ")", x.register(k, i), due.registers().get(i));
        }
    }

    private static void askSurvey(String when, LaneJudge x, List<Model.Ending> runs) {
        for (int fate = 0; fate < 4; fate++) {
            int wanted = fate;
            int count = (int) runs.stream().filter(r -> r.fate() == wanted).count();
            Due.is(when + ": count(" + fate + ")", x.count(fate), count);
            int first = -1;
            for (int k = 63; k >= 0; k--) {
                first = runs.get(k).fate() == fate ? k : first;
            }
            Due.is(when + ": first(" + fate + ")", x.first(fate), first);
        }
        for (int p = 0; p < 12; p++) {
            int at = p;
            int due = (int) runs.stream().filter(r -> r.visited().contains(at)).count();
            Due.is(when + ": visits(" + p + ")", x.visits(p), due);
        }
        for (int i = 0; i < 4; i++) {
            int of = i;
            int[] values = runs.stream().mapToInt(r -> r.registers().get(of)).toArray();
            int kinds = (int) Arrays.stream(values).distinct().count();
            Due.is(when + ": always(" + i + ")", x.always(i), kinds == 1 ? values[0] : -1);
            for (int bit = 0; bit < 6; bit++) {
                int weight = (int) Math.pow(2, bit);
                int due = 0;
                for (int k = 0; k + weight < 64; k++) {
                    due += k / weight % 2 == 0 && values[k] != values[k + weight] ? 1 : 0;
                }
                Due.is(when + ": depends(" + i + ", " + bit + ")", x.depends(i, bit), due);
            }
        }
    }

    private static void askKept(String when, Model m, LaneJudge x, List<Model.Ending> runs) {
        int agreeing = m.hasKept() ? 0 : -1;
        int difference = -1;
        for (int k = 63; k >= 0 && m.hasKept(); k--) {
            boolean agrees = m.agrees(runs.get(k), k);
            agreeing += agrees ? 1 : 0;
            difference = agrees ? difference : k;
        }
        Due.is(when + ": agreeing()", x.agreeing(), agreeing);
        Due.is(when + ": difference()", x.difference(), difference);
    }

    /** CLAIM and HALT take any other b too; TermsEdgeTest looks at that. */
    private static void everyProgramOfOneInstruction() {
        for (int op = 0; op < 12; op++) {
            for (int a = 0; a < 4; a++) {
                for (int b = 0; b < 16; b++) {
                    Model m = new Model(3);
                    LaneJudge x = new LaneJudge(3);
                    String when = "emit(" + op + ", " + a + ", " + b + ")";
                    Due.is(when, x.emit(op, a, b), m.emit(op, a, b));
                    askAll(when, m, x);
                }
            }
        }
    }

    /** Every input and every survey: 498 calls on x. */
    private static void askAll(String when, Model m, LaneJudge x) {
        List<Model.Ending> runs = m.runs();
        for (int k = 0; k < 64; k++) {
            askInput(when, x, k, runs);
        }
        askSurvey(when, x, runs);
        askKept(when, m, x, runs);
    }

    private static void questionsChangeNothing() {
        LaneJudge x = new LaneJudge(7);
        Model m = new Model(7);
        int[][] program = {{3, 0, 1}, {5, 1, 0}, {9, 1, 0}, {10, 0, 0}};
        for (int[] i : program) {
            x.emit(i[0], i[1], i[2]);
            m.emit(i[0], i[1], i[2]);
        }
        x.keep();
        m.keep();
        askSome("asked once", m, x);
        askSome("asked twice", m, x);
        Due.is("length() after questions", x.length(), 4);
    }
}
