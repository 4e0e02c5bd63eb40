/** Judges a small register program on all 64 inputs at once. */
public final class LaneJudge {
    public static final int HALTED = 0;
    public static final int TIRED = 1;
    public static final int TRAPPED = 2;
    public static final int FAILED = 3;

    /** Not a fate: the run has not ended. It is never stored as a run's fate. */
    private static final int GOING = -1;

    private static final int SET = 0;
    private static final int MOVE = 1;
    private static final int ADD = 2;
    private static final int SUB = 3;
    private static final int MUL = 4;
    private static final int DIV = 5;
    private static final int AND = 6;
    private static final int XOR = 7;
    private static final int LESS = 8;
    private static final int BRANCH = 9;
    private static final int CLAIM = 10;
    private static final int HALT = 11;

    private static final int GREATEST_LIMIT = 40;
    private static final int CAPACITY = 12;
    private static final int INPUTS = 64;
    private static final int INPUT_BITS = 6;
    private static final int REGISTERS = 4;
    private static final int GREATEST_VALUE = 15;
    private static final int END_VALUES = INPUTS * REGISTERS;

    private static final int ACCEPTED = 0;
    private static final int NO_PLACE = -1;
    private static final int BAD_OPERATION = -2;
    private static final int BAD_A = -3;
    private static final int BAD_B = -4;
    private static final int NONE = -1;

    private final int stepLimit;

    private int size = 0;
    private final int[] ops = new int[CAPACITY];
    private final int[] as = new int[CAPACITY];
    private final int[] bs = new int[CAPACITY];

    /** The registers of the run that is being carried out. */
    private final int[] values = new int[REGISTERS];

    // The runs of the program as it is now, by input. They are made anew at
    // every change of the program, so that no answer can be out of date.
    private final int[] endFates = new int[INPUTS];
    private final int[] endSteps = new int[INPUTS];
    private final int[] endPositions = new int[INPUTS];
    private final int[] endValues = new int[END_VALUES];
    /** Bit p is set when the run carries out the instruction at p. */
    private final int[] visitedPositions = new int[INPUTS];

    private boolean somethingKept = false;
    private final int[] keptFates = new int[INPUTS];
    private final int[] keptValues = new int[INPUTS];

    public LaneJudge(int limit) {
        stepLimit = limit < 1 ? 1 : limit > GREATEST_LIMIT ? GREATEST_LIMIT : limit;
        runAll();
    }

    public int emit(int op, int a, int b) {
        if (size >= CAPACITY) {
            return NO_PLACE;
        }
        int refusal = refusalOf(op, a, b);
        if (refusal != ACCEPTED) {
            return refusal;
        }
        int p = size;
        size++;
        place(p, op, a, b);
        return p;
    }

    public int patch(int p, int op, int a, int b) {
        if (!isPosition(p)) {
            return NO_PLACE;
        }
        int refusal = refusalOf(op, a, b);
        if (refusal != ACCEPTED) {
            return refusal;
        }
        place(p, op, a, b);
        return p;
    }

    public void clear() {
        size = 0;
        runAll();
    }

    public int length() {
        return size;
    }

    public int fate(int k) {
        return isInput(k) ? endFates[k] : NONE;
    }

    public int steps(int k) {
        return isInput(k) ? endSteps[k] : NONE;
    }

    public int endAt(int k) {
        return isInput(k) ? endPositions[k] : NONE;
    }

    public int register(int k, int i) {
        return isInput(k) && isRegister(i) ? endValue(k, i) : NONE;
    }

    public int count(int fate) {
        int found = 0;
        for (int k = 0; k < INPUTS; k++) {
            if (endFates[k] == fate) {
                found++;
            }
        }
        return found;
    }

    public int first(int fate) {
        for (int k = 0; k < INPUTS; k++) {
            if (endFates[k] == fate) {
                return k;
            }
        }
        return NONE;
    }

    public int visits(int p) {
        if (!isPosition(p)) {
            return 0;
        }
        int found = 0;
        for (int k = 0; k < INPUTS; k++) {
            found += (visitedPositions[k] >> p) & 1;
        }
        return found;
    }

    public int always(int i) {
        if (!isRegister(i)) {
            return NONE;
        }
        int value = endValue(0, i);
        for (int k = 1; k < INPUTS; k++) {
            if (endValue(k, i) != value) {
                return NONE;
            }
        }
        return value;
    }

    public int depends(int i, int bit) {
        if (!isRegister(i) || bit < 0 || bit >= INPUT_BITS) {
            return NONE;
        }
        int weight = 1 << bit;
        int found = 0;
        for (int k = 0; k < INPUTS; k++) {
            if ((k & weight) == 0 && endValue(k, i) != endValue(k + weight, i)) {
                found++;
            }
        }
        return found;
    }

    public void keep() {
        for (int k = 0; k < INPUTS; k++) {
            keptFates[k] = endFates[k];
            keptValues[k] = endValue(k, 0);
        }
        somethingKept = true;
    }

    public int agreeing() {
        if (!somethingKept) {
            return NONE;
        }
        int found = 0;
        for (int k = 0; k < INPUTS; k++) {
            if (agreesOn(k)) {
                found++;
            }
        }
        return found;
    }

    public int difference() {
        if (!somethingKept) {
            return NONE;
        }
        for (int k = 0; k < INPUTS; k++) {
            if (!agreesOn(k)) {
                return k;
            }
        }
        return NONE;
    }

    private static boolean isInput(int k) {
        return k >= 0 && k < INPUTS;
    }

    private static boolean isRegister(int i) {
        return i >= 0 && i < REGISTERS;
    }

    private boolean isPosition(int p) {
        return p >= 0 && p < size;
    }

    private int endValue(int k, int i) {
        return endValues[k * REGISTERS + i];
    }

    private boolean agreesOn(int k) {
        if (endFates[k] != keptFates[k]) {
            return false;
        }
        return keptFates[k] != HALTED || endValue(k, 0) == keptValues[k];
    }

    private static int refusalOf(int op, int a, int b) {
        if (op < SET || op > HALT) {
            return BAD_OPERATION;
        }
        if (!isRegister(a)) {
            return BAD_A;
        }
        return fitsB(op, b) ? ACCEPTED : BAD_B;
    }

    private static boolean fitsB(int op, int b) {
        if (op == SET) {
            return b >= 0 && b <= GREATEST_VALUE;
        }
        if (op == BRANCH) {
            return b >= 0 && b <= CAPACITY;
        }
        return !readsTwo(op) || isRegister(b);
    }

    /** Whether b names a register in this operation. */
    private static boolean readsTwo(int op) {
        return op >= MOVE && op <= LESS;
    }

    private void place(int p, int op, int a, int b) {
        ops[p] = op;
        as[p] = a;
        bs[p] = b;
        runAll();
    }

    private void runAll() {
        for (int k = 0; k < INPUTS; k++) {
            runOn(k);
        }
    }

    private void runOn(int k) {
        startOn(k);
        int position = 0;
        int carriedOut = 0;
        int visited = 0;
        int ending = GOING;
        for (; carriedOut < stepLimit && position < size && ending == GOING; carriedOut++) {
            visited |= 1 << position;
            ending = endingAt(position);
            if (ending == GOING) {
                changeRegister(position);
                position = nextAfter(position);
            }
        }
        if (ending == GOING) {
            // Past the end comes before the limit when both apply.
            ending = position >= size ? HALTED : TIRED;
        }
        endFates[k] = ending;
        endSteps[k] = carriedOut;
        endPositions[k] = position;
        visitedPositions[k] = visited;
        for (int i = 0; i < REGISTERS; i++) {
            endValues[k * REGISTERS + i] = values[i];
        }
    }

    private void startOn(int k) {
        values[0] = k % 8;
        values[1] = k / 8;
        values[2] = 0;
        values[3] = 0;
    }

    /** The fate that the instruction at p brings on, or GOING. */
    private int endingAt(int p) {
        switch (ops[p]) {
            case HALT:
                return HALTED;
            case DIV:
                return values[bs[p]] == 0 ? TRAPPED : GOING;
            case CLAIM:
                return values[as[p]] == 0 ? FAILED : GOING;
            default:
                return GOING;
        }
    }

    private int nextAfter(int p) {
        return ops[p] == BRANCH && values[as[p]] != 0 ? bs[p] : p + 1;
    }

    private void changeRegister(int p) {
        int op = ops[p];
        int a = as[p];
        int b = bs[p];
        int second = readsTwo(op) ? values[b] : b;
        values[a] = resultOf(op, values[a], second);
    }

    private static int resultOf(int op, int x, int y) {
        switch (op) {
            case SET:
            case MOVE:
                return y;
            case ADD:
                return (x + y) % 16;
            case SUB:
                return (x - y + 16) % 16;
            case MUL:
                return (x * y) % 16;
            case DIV:
                // A zero divisor has ended the run before; x is then unchanged.
                return y == 0 ? x : x / y;
            case AND:
                return x & y;
            case XOR:
                return x ^ y;
            case LESS:
                return x < y ? 1 : 0;
            default:
                // BRANCH, CLAIM and HALT change no register.
                return x;
        }
    }
}
