import java.util.Arrays;

/**
 * A back end for straight code: lifetimes and weights of values, registers given out greedily,
 * slots for what finds none, and the code run as it was written and as it was allocated.
 */
public final class AllocForge {
    private static final int CONST = 0;
    private static final int ARG = 1;
    private static final int ADD = 2;
    private static final int SUB = 3;
    private static final int MUL = 4;
    private static final int DIV = 5;
    private static final int SAY = 6;
    private static final int CALL = 7;

    private static final int INSTRUCTION_LIMIT = 24;
    private static final int NUMBER_LIMIT = 4;
    private static final int REGISTER_LIMIT = 5;
    private static final int FIRST_SPOILED = 2;
    private static final int FIRST_SLOT = 10;
    private static final int SLOT_LIMIT = 6;
    private static final int NONE = -1;

    private final Code code;
    private final int[] ownCells;
    private final Machine written;
    private final Machine allocated;
    private Machine latest;
    private Allocation kept;
    private Allocation trial;

    public AllocForge() {
        code = new Code();
        ownCells = new int[INSTRUCTION_LIMIT];
        for (int v = 0; v < INSTRUCTION_LIMIT; v++) {
            ownCells[v] = v;
        }
        written = new Machine();
        allocated = new Machine();
        latest = written;
        kept = new Allocation();
        trial = new Allocation();
    }

    public int add(int op, int a, int b, int depth) throws IllegalArgumentException, IllegalStateException {
        if (!code.accepts(op, a, b, depth)) {
            throw new IllegalArgumentException("no such instruction");
        }
        if (code.size() >= INSTRUCTION_LIMIT) {
            throw new IllegalStateException("the code is full");
        }
        code.append(op, a, b, depth);
        kept.forget();
        return code.size();
    }

    public int clear() {
        int before = code.size();
        code.empty();
        kept.forget();
        return before;
    }

    public int allocate(int k) throws IllegalArgumentException, IllegalStateException {
        if (k < 1 || k > REGISTER_LIMIT) {
            throw new IllegalArgumentException("no such number of registers");
        }
        // A try without room must leave what is allocated alone, so it is made beside it.
        if (!trial.fill(code, k)) {
            throw new IllegalStateException("no room");
        }
        Allocation old = kept;
        kept = trial;
        trial = old;
        return kept.valuesInRegisters();
    }

    public int place(int v) throws IndexOutOfBoundsException, IllegalStateException {
        requireValue(v);
        requireAllocated();
        return kept.homeOf(v);
    }

    public double weight(int v) throws IndexOutOfBoundsException {
        requireValue(v);
        return code.weightOf(v);
    }

    public int told(int v, int what) throws IllegalArgumentException, IndexOutOfBoundsException {
        if (what < 0 || what > 3) {
            throw new IllegalArgumentException("nothing of this kind is told");
        }
        requireValue(v);
        switch (what) {
            case 0:
                return code.endOf(v);
            case 1:
                return code.usesOf(v);
            case 2:
                return code.isCrossed(v) ? 1 : 0;
            default:
                return code.othersMeeting(v);
        }
    }

    public double cost() throws IllegalStateException {
        requireAllocated();
        return kept.priceOfSlots(code);
    }

    public int run(int x, int y, int z, int w) throws ArithmeticException {
        runWritten(x, y, z, w);
        latest = written;
        return resultOf(written);
    }

    public int go(int x, int y, int z, int w) throws IllegalStateException, ArithmeticException {
        requireAllocated();
        runAllocated(x, y, z, w);
        latest = allocated;
        return resultOf(allocated);
    }

    public boolean same(int x, int y, int z, int w) throws IllegalStateException {
        requireAllocated();
        runWritten(x, y, z, w);
        runAllocated(x, y, z, w);
        latest = allocated;
        return allocated.endedLike(written);
    }

    public int said(int i) throws IndexOutOfBoundsException {
        if (i < 0 || i >= latest.saidCount()) {
            throw new IndexOutOfBoundsException("no such number was said");
        }
        return latest.saidAt(i);
    }

    public int count(int what) throws IllegalArgumentException {
        switch (what) {
            case 0:
                return code.size();
            case 1:
                return code.values();
            case 2:
                return latest.saidCount();
            case 3:
                return kept.evictions();
            case 4:
                return kept.valuesInSlots();
            case 5:
                return kept.slotsUsed();
            case 6:
                return kept.registersUsed();
            case 7:
                return kept.registers();
            default:
                throw new IllegalArgumentException("nothing of this kind is counted");
        }
    }

    private void requireValue(int v) {
        if (!code.isValue(v)) {
            throw new IndexOutOfBoundsException("no such value");
        }
    }

    private void requireAllocated() {
        if (kept.registers() == 0) {
            throw new IllegalStateException("nothing is allocated");
        }
    }

    private void runWritten(int x, int y, int z, int w) {
        written.takeNumbers(x, y, z, w);
        written.perform(code, ownCells, 0);
    }

    private void runAllocated(int x, int y, int z, int w) {
        allocated.takeNumbers(x, y, z, w);
        allocated.perform(code, kept.homes(), kept.registers());
    }

    private static int resultOf(Machine machine) {
        if (machine.hadFault()) {
            throw new ArithmeticException("division by zero");
        }
        return machine.result();
    }

    /** The row of instructions, and what follows from it alone about each value. */
    private static final class Code {
        private static final int[] PRICES = {1, 10, 100, 1000};

        private final int[] ops = new int[INSTRUCTION_LIMIT];
        private final int[] lefts = new int[INSTRUCTION_LIMIT];
        private final int[] rights = new int[INSTRUCTION_LIMIT];
        private final int[] ends = new int[INSTRUCTION_LIMIT];
        private final int[] uses = new int[INSTRUCTION_LIMIT];
        private final int[] prices = new int[INSTRUCTION_LIMIT];
        private int size;
        private int values;

        boolean accepts(int op, int a, int b, int depth) {
            if (op < CONST || op > CALL || depth < 0 || depth >= PRICES.length) {
                return false;
            }
            if (op == ARG && (a < 0 || a >= NUMBER_LIMIT)) {
                return false;
            }
            if (usesLeft(op) && !isValue(a)) {
                return false;
            }
            return !usesRight(op) || isValue(b);
        }

        void append(int op, int a, int b, int depth) {
            int i = size;
            ops[i] = op;
            lefts[i] = a;
            rights[i] = b;
            ends[i] = i + 1;
            uses[i] = 0;
            prices[i] = PRICES[depth];
            if (usesLeft(op)) {
                noteUse(a, i);
            }
            if (usesRight(op)) {
                noteUse(b, i);
            }
            if (op != SAY) {
                values++;
            }
            size++;
        }

        // Instructions only ever come behind all others, so the newest use is the last one.
        private void noteUse(int v, int user) {
            ends[v] = user;
            uses[v]++;
            prices[v] += prices[user];
        }

        void empty() {
            size = 0;
            values = 0;
        }

        static boolean usesLeft(int op) {
            return op >= ADD;
        }

        static boolean usesRight(int op) {
            return op >= ADD && op <= DIV;
        }

        int size() {
            return size;
        }

        int values() {
            return values;
        }

        int opAt(int i) {
            return ops[i];
        }

        int leftAt(int i) {
            return lefts[i];
        }

        int rightAt(int i) {
            return rights[i];
        }

        boolean isValue(int v) {
            return v >= 0 && v < size && ops[v] != SAY;
        }

        int endOf(int v) {
            return ends[v];
        }

        int usesOf(int v) {
            return uses[v];
        }

        int priceOf(int v) {
            return prices[v];
        }

        int lengthOf(int v) {
            return ends[v] - v;
        }

        double weightOf(int v) {
            return (double) prices[v] / lengthOf(v);
        }

        boolean meet(int v, int w) {
            return v < ends[w] && w < ends[v];
        }

        boolean isCrossed(int v) {
            for (int i = v + 1; i < ends[v] && i < size; i++) {
                if (ops[i] == CALL) {
                    return true;
                }
            }
            return false;
        }

        int othersMeeting(int v) {
            int others = 0;
            for (int w = 0; w < size; w++) {
                if (w != v && isValue(w) && meet(v, w)) {
                    others++;
                }
            }
            return others;
        }
    }

    /** Where each value lives; with 0 registers it stands for nothing being allocated. */
    private static final class Allocation {
        // Every eviction is by a heavier value, so the looks end by themselves; no code that was
        // searched for needed more than 55.
        private static final int LOOK_LIMIT = 1000000;

        private final int[] homes = new int[INSTRUCTION_LIMIT];
        private int registers;
        private int evictions;

        Allocation() {
            Arrays.fill(homes, NONE);
        }

        void forget() {
            Arrays.fill(homes, NONE);
            registers = 0;
            evictions = 0;
        }

        /** Whether all values of the code found room. */
        boolean fill(Code code, int k) {
            forget();
            registers = k;
            for (int looks = 0; looks < LOOK_LIMIT; looks++) {
                int v = longestWaiting(code);
                if (v == NONE) {
                    return true;
                }
                if (!takeRegister(code, v) && !takeSlot(code, v)) {
                    return false;
                }
            }
            return false;
        }

        private int longestWaiting(Code code) {
            int longest = NONE;
            for (int v = 0; v < code.size(); v++) {
                boolean waits = code.isValue(v) && homes[v] == NONE;
                if (waits && (longest == NONE || code.lengthOf(v) > code.lengthOf(longest))) {
                    longest = v;
                }
            }
            return longest;
        }

        // A register in which nothing meets the value counts as weight 0, less than any weight:
        // so the free ones come first and need no case of their own.
        private boolean takeRegister(Code code, int v) {
            int allowed = code.isCrossed(v) ? Math.min(registers, FIRST_SPOILED) : registers;
            int best = NONE;
            double lightest = code.weightOf(v);
            for (int r = 0; r < allowed; r++) {
                double heaviest = heaviestMeeting(code, v, r);
                if (heaviest < lightest) {
                    best = r;
                    lightest = heaviest;
                }
            }
            if (best == NONE) {
                return false;
            }
            evictMeeting(code, v, best);
            homes[v] = best;
            return true;
        }

        private double heaviestMeeting(Code code, int v, int home) {
            double heaviest = 0.0;
            for (int w = 0; w < code.size(); w++) {
                if (homes[w] == home && code.meet(v, w) && code.weightOf(w) > heaviest) {
                    heaviest = code.weightOf(w);
                }
            }
            return heaviest;
        }

        private void evictMeeting(Code code, int v, int home) {
            for (int w = 0; w < code.size(); w++) {
                if (homes[w] == home && code.meet(v, w)) {
                    homes[w] = NONE;
                    evictions++;
                }
            }
        }

        private boolean takeSlot(Code code, int v) {
            for (int slot = FIRST_SLOT; slot < FIRST_SLOT + SLOT_LIMIT; slot++) {
                if (heaviestMeeting(code, v, slot) == 0.0) {
                    homes[v] = slot;
                    return true;
                }
            }
            return false;
        }

        int registers() {
            return registers;
        }

        int evictions() {
            return evictions;
        }

        int[] homes() {
            return homes;
        }

        int homeOf(int v) {
            return homes[v];
        }

        int valuesInRegisters() {
            return valuesFrom(0, REGISTER_LIMIT);
        }

        int valuesInSlots() {
            return valuesFrom(FIRST_SLOT, SLOT_LIMIT);
        }

        int registersUsed() {
            return homesUsed(0, REGISTER_LIMIT);
        }

        int slotsUsed() {
            return homesUsed(FIRST_SLOT, SLOT_LIMIT);
        }

        private int valuesFrom(int first, int many) {
            int values = 0;
            for (int home = first; home < first + many; home++) {
                values += valuesAt(home);
            }
            return values;
        }

        private int homesUsed(int first, int many) {
            int used = 0;
            for (int home = first; home < first + many; home++) {
                if (valuesAt(home) > 0) {
                    used++;
                }
            }
            return used;
        }

        private int valuesAt(int home) {
            int values = 0;
            for (int v = 0; v < homes.length; v++) {
                if (homes[v] == home) {
                    values++;
                }
            }
            return values;
        }

        double priceOfSlots(Code code) {
            double price = 0.0;
            for (int v = 0; v < code.size(); v++) {
                if (homes[v] >= FIRST_SLOT) {
                    price += code.priceOf(v);
                }
            }
            return price;
        }
    }

    /** Runs code over cells, and keeps how its latest run ended and what was said in it. */
    private static final class Machine {
        // As many as there can be values: more than the homes of registers and slots need.
        private final int[] cells = new int[INSTRUCTION_LIMIT];
        private final int[] numbers = new int[NUMBER_LIMIT];
        private final int[] said = new int[INSTRUCTION_LIMIT];
        private int saidCount;
        private int result;
        private boolean fault;

        void takeNumbers(int x, int y, int z, int w) {
            numbers[0] = x;
            numbers[1] = y;
            numbers[2] = z;
            numbers[3] = w;
        }

        /** Runs the code with value v in cell homes[v], the first cells being registers. */
        void perform(Code code, int[] homes, int registers) {
            Arrays.fill(cells, 0);
            saidCount = 0;
            result = 0;
            fault = false;
            for (int i = 0; i < code.size() && !fault; i++) {
                step(code, i, homes, registers);
            }
        }

        private void step(Code code, int i, int[] homes, int registers) {
            int op = code.opAt(i);
            int left = Code.usesLeft(op) ? cells[homes[code.leftAt(i)]] : code.leftAt(i);
            int right = Code.usesRight(op) ? cells[homes[code.rightAt(i)]] : 0;
            result = compute(op, left, right);
            if (op == CALL) {
                spoil(registers);
            }
            if (op != SAY && !fault) {
                cells[homes[i]] = result;
            }
        }

        private int compute(int op, int left, int right) {
            switch (op) {
                case ARG:
                    return numbers[left];
                case ADD:
                    return left + right;
                case SUB:
                    return left - right;
                case MUL:
                    return left * right;
                case DIV:
                    return divide(left, right);
                case SAY:
                    said[saidCount++] = left;
                    return 0;
                case CALL:
                    return left * 3 + 1;
                default:
                    return left;
            }
        }

        private int divide(int left, int right) {
            if (right == 0) {
                fault = true;
                return 0;
            }
            return left / right;
        }

        private void spoil(int registers) {
            for (int r = FIRST_SPOILED; r < registers; r++) {
                cells[r] = -1;
            }
        }

        int saidCount() {
            return saidCount;
        }

        int saidAt(int i) {
            return said[i];
        }

        int result() {
            return result;
        }

        boolean hadFault() {
            return fault;
        }

        boolean endedLike(Machine other) {
            if (fault != other.fault || saidCount != other.saidCount) {
                return false;
            }
            for (int i = 0; i < saidCount; i++) {
                if (said[i] != other.said[i]) {
                    return false;
                }
            }
            return fault || result == other.result;
        }
    }
}
