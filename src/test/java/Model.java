import java.util.ArrayList;
import java.util.HashSet;
import java.util.List;
import java.util.Set;

/** The document's words once more, as plainly as the library allows and with nothing stored between calls. */
final class Model {
    /** How one run ended. */
    record Ending(int fate, int steps, int position, List<Integer> registers, Set<Integer> visited) {
    }

    private final int limit;
    private final List<int[]> program = new ArrayList<>();
    private List<Ending> kept = null;

    Model(int limit) {
        this.limit = Math.max(1, Math.min(40, limit));
    }

    private static int refusal(int op, int a, int b) {
        if (op < 0 || op > 11) return -2;
        if (a < 0 || a > 3) return -3;
        int greatest = op == 0 ? 15 : op == 9 ? 12 : 3;
        boolean free = op == 10 || op == 11;
        return free || (b >= 0 && b <= greatest) ? 0 : -4;
    }

    int emit(int op, int a, int b) {
        if (program.size() == 12) return -1;
        int refused = refusal(op, a, b);
        if (refused != 0) return refused;
        program.add(new int[] {op, a, b});
        return program.size() - 1;
    }

    int patch(int p, int op, int a, int b) {
        if (p < 0 || p >= program.size()) return -1;
        int refused = refusal(op, a, b);
        if (refused != 0) return refused;
        program.set(p, new int[] {op, a, b});
        return p;
    }

    void clear() {
        program.clear();
    }

    int length() {
        return program.size();
    }

    Ending run(int k) {
        int[] r = {k % 8, k / 8, 0, 0};
        Set<Integer> visited = new HashSet<>();
        int position = 0;
        int steps = 0;
        while (true) {
            if (position >= program.size()) return ending(LaneJudge.HALTED, steps, position, r, visited);
            if (steps == limit) return ending(LaneJudge.TIRED, steps, position, r, visited);
            int[] now = program.get(position);
            int a = now[1];
            int b = now[2];
            steps++;
            visited.add(position);
            if (now[0] == 11) return ending(LaneJudge.HALTED, steps, position, r, visited);
            if (now[0] == 5 && r[b] == 0) return ending(LaneJudge.TRAPPED, steps, position, r, visited);
            if (now[0] == 10 && r[a] == 0) return ending(LaneJudge.FAILED, steps, position, r, visited);
            position++;
            switch (now[0]) {
                case 0 -> r[a] = b;
                case 1 -> r[a] = r[b];
                case 2 -> r[a] = Math.floorMod(r[a] + r[b], 16);
                case 3 -> r[a] = Math.floorMod(r[a] - r[b], 16);
                case 4 -> r[a] = Math.floorMod(r[a] * r[b], 16);
                case 5 -> r[a] = Math.floorDiv(r[a], r[b]);
                case 6 -> r[a] = r[a] & r[b];
                case 7 -> r[a] = r[a] ^ r[b];
                case 8 -> r[a] = r[a] < r[b] ? 1 : 0;
                case 9 -> position = r[a] != 0 ? b : position;
                default -> { }
            }
        }
    }

    private static Ending ending(int fate, int steps, int position, int[] r, Set<Integer> visited) {
        return new Ending(fate, steps, position, List.of(r[0], r[1], r[2], r[3]), visited);
    }

    List<Ending> runs() {
        List<Ending> all = new ArrayList<>();
        for (int k = 0; k < 64; k++) {
            all.add(run(k));
        }
        return all;
    }

    void keep() {
        kept = runs();
    }

    boolean hasKept() {
        return kept != null;
    }

    boolean agrees(Ending now, int k) {
        Ending then = kept.get(k);
        if (now.fate() != then.fate()) return false;
        return then.fate() != LaneJudge.HALTED || now.registers().get(0).equals(then.registers().get(0));
    }
}
