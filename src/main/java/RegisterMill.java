import java.util.Arrays;
import java.util.NoSuchElementException;

/**
 * A mill that turns code for a stack machine into code for one with few registers, and runs both.
 *
 * <p>Why no index in here needs a test at each use: arguments of the face are tested where they come
 * in, and nothing is turned or run before CHECK has tested every WORD that can be reached.
 */
public final class RegisterMill {
    public static final int NONE = -1;

    private static final int MAX_FUNCS = 12;
    private static final int MAX_ARGS = 6;
    private static final int MAX_LOCALS = 10;
    private static final int MAX_WORDS = 300;
    private static final int MAX_STACK = 12;
    private static final int MAX_VALUES = MAX_LOCALS + MAX_STACK;
    private static final int MAX_CALLS = 30;
    private static final int MIN_REGISTERS = 3;
    private static final int MAX_REGISTERS = 16;
    private static final int SPARE_REGISTERS = 2;
    private static final int MAX_STEPS = 20000;
    private static final int CELLS = 64;

    // The stack machine's ops.
    private static final int PUSH = 0;
    private static final int FROM_LOCAL = 1;
    private static final int TO_LOCAL = 2;
    private static final int PLUS = 3;
    private static final int MINUS = 4;
    private static final int TIMES = 5;
    private static final int DIVIDE = 6;
    private static final int LESS = 7;
    private static final int SAME = 8;
    private static final int TWICE = 9;
    private static final int FLIP = 10;
    private static final int DROP = 11;
    private static final int JUMP = 12;
    private static final int JUMP_IF_0 = 13;
    private static final int INVOKE = 14;
    private static final int ANSWER = 15;
    private static final int FROM_CELL = 16;
    private static final int TO_CELL = 17;

    // How many each of these takes from the STACK and puts on it; INVOKE takes the ARGS besides.
    private static final int[] TAKES = {0, 0, 1, 2, 2, 2, 2, 2, 2, 1, 2, 1, 0, 1, 0, 1, 1, 2};
    private static final int[] PUTS = {1, 1, 0, 1, 1, 1, 1, 1, 1, 2, 2, 0, 0, 0, 1, 0, 1, 0};

    // The register machine's ops; the kinds of places have the same numbers.
    private static final int SET = 0;
    private static final int MOVE = 1;
    private static final int WORK = 2;
    private static final int SWAP = 3;
    private static final int GO = 4;
    private static final int IFNOT = 5;
    private static final int TELL = 6;
    private static final int READ = 7;
    private static final int WRITE = 8;
    private static final int LOAD = 9;
    private static final int SAVE = 10;
    private static final int TAKE = 11;
    private static final int PASS = 12;
    private static final int CALL = 13;
    private static final int GET = 14;

    private static final int FAULT_FORM = 1;
    private static final int FAULT_TOO_FEW = 2;
    private static final int FAULT_TOO_MANY = 3;
    private static final int FAULT_NO_NEXT = 4;
    private static final int FAULT_OTHER_DEPTH = 5;
    private static final int FAULT_NO_WORDS = 6;
    private static final int FAULT_NO_FUNC = 7;
    private static final int FAULT_FUNC_STEP = 8;
    private static final int FAULT_WORD_STEP = 128;

    private static final int END_TOLD = 1;
    private static final int END_DIVISION = 2;
    private static final int END_CELL = 3;
    private static final int END_CALLS = 4;

    private final Program program;
    private final Checker checker;
    private final Turner turner;
    private final Machine stackMachine;
    private final Machine registerMachine;

    public RegisterMill() {
        program = new Program();
        checker = new Checker(program);
        turner = new Turner(program);
        stackMachine = new StackMachine(program);
        registerMachine = new RegisterMachine(turner.code);
    }

    public int func(int args, int locals) {
        boolean known = args >= 0 && args <= MAX_ARGS && locals >= args && locals <= MAX_LOCALS;
        if (!known || program.checked || program.funcs >= MAX_FUNCS) {
            return NONE;
        }
        return program.addFunc(args, locals);
    }

    public int word(int op, int n) {
        if (program.funcs == 0 || program.checked || program.words >= MAX_WORDS) {
            return NONE;
        }
        return program.addWord(op, n);
    }

    public int check() {
        if (program.checked) {
            return 0;
        }
        int fault = checker.firstFault();
        program.checked = fault == 0;
        return fault;
    }

    public int depth(int func, int word) {
        if (!program.checked || !program.hasFunc(func)) {
            return NONE;
        }
        if (word < 0 || word >= program.lengths[func]) {
            return NONE;
        }
        return program.depths[program.starts[func] + word];
    }

    public void clear() {
        program.empty();
        turner.registers = 0;
        beginMachines();
        Arrays.fill(stackMachine.memory, 0);
        Arrays.fill(registerMachine.memory, 0);
    }

    public int turn(int r) {
        if (!program.checked || r < MIN_REGISTERS || r > MAX_REGISTERS) {
            return NONE;
        }
        turner.begin(r);
        for (int f = 0; f < program.funcs; f++) {
            turner.turnFunc(f);
        }
        beginMachines();
        return turner.code.total;
    }

    public int op(int func, int i, int what) throws NoSuchElementException {
        if (!isTurned(func) || i < 0 || i >= turner.code.sizes[func]) {
            throw new NoSuchElementException("no such op");
        }
        if (what < 0 || what >= Code.FIELDS) {
            throw new NoSuchElementException("an op has no such part");
        }
        return turner.code.part(func, i, what);
    }

    public int size(int func) {
        return isTurned(func) ? turner.code.sizes[func] : NONE;
    }

    public int value(int func, int v, int what) {
        if (!isTurned(func) || v < 0 || v >= program.locals[func] + MAX_STACK) {
            return NONE;
        }
        return turner.homes.tell(func, v, what);
    }

    public int slots(int func) {
        return isTurned(func) ? turner.homes.slotCounts[func] : NONE;
    }

    public int places(int func) {
        return isTurned(func) ? turner.placeCounts[func] : NONE;
    }

    public boolean cell(int k, int v) {
        if (k < 0 || k >= CELLS) {
            return false;
        }
        stackMachine.memory[k] = v;
        registerMachine.memory[k] = v;
        return true;
    }

    public boolean again() {
        if (!program.checked) {
            return false;
        }
        beginMachines();
        return true;
    }

    public int runStack(int n) {
        if (!program.checked || n < 1 || n > MAX_STEPS) {
            return NONE;
        }
        return stackMachine.goOn(n);
    }

    public int runRegisters(int n) {
        if (turner.registers == 0 || n < 1 || n > MAX_STEPS) {
            return NONE;
        }
        return registerMachine.goOn(n);
    }

    public int look(int machine, int what) {
        if (machine < 0 || machine > 1) {
            return NONE;
        }
        return machineOf(machine).tell(what);
    }

    public int peek(int machine, int k) throws NoSuchElementException {
        if (machine < 0 || machine > 1 || k < 0 || k >= CELLS) {
            throw new NoSuchElementException("no such cell");
        }
        return machineOf(machine).memory[k];
    }

    public int count(int what) {
        switch (what) {
            case 0:
                return program.funcs;
            case 1:
                return program.words;
            case 2:
                return program.checked ? 1 : 0;
            case 3:
                return turner.registers;
            case 4:
                return turner.registers == 0 ? 0 : turner.code.total;
            default:
                return NONE;
        }
    }

    private boolean isTurned(int func) {
        return turner.registers != 0 && program.hasFunc(func);
    }

    private Machine machineOf(int number) {
        return number == 0 ? stackMachine : registerMachine;
    }

    private void beginMachines() {
        stackMachine.begin();
        registerMachine.begin();
    }

    // The divisor is tested by the machines, which trap; it is tested here so that no caller can err.
    private static int reckon(int op, int t, int s) {
        switch (op) {
            case PLUS:
                return t + s;
            case MINUS:
                return t - s;
            case TIMES:
                return t * s;
            case DIVIDE:
                return s == 0 ? 0 : t / s;
            case LESS:
                return t < s ? 1 : 0;
            default:
                return t == s ? 1 : 0;
        }
    }

    /** The stack code: FUNCS, and their WORDS behind one another in the same rows. */
    private static final class Program {
        final int[] args = new int[MAX_FUNCS];
        final int[] locals = new int[MAX_FUNCS];
        final int[] starts = new int[MAX_FUNCS];
        final int[] lengths = new int[MAX_FUNCS];
        final int[] ops = new int[MAX_WORDS];
        final int[] numbers = new int[MAX_WORDS];
        final int[] depths = new int[MAX_WORDS];
        int funcs;
        int words;
        boolean checked;

        int addFunc(int argCount, int localCount) {
            args[funcs] = argCount;
            locals[funcs] = localCount;
            starts[funcs] = words;
            lengths[funcs] = 0;
            funcs++;
            return funcs - 1;
        }

        int addWord(int op, int n) {
            int latest = funcs - 1;
            ops[words] = op;
            numbers[words] = n;
            words++;
            lengths[latest]++;
            return lengths[latest] - 1;
        }

        void empty() {
            funcs = 0;
            words = 0;
            checked = false;
        }

        boolean hasFunc(int f) {
            return f >= 0 && f < funcs;
        }

        int takes(int op, int n) {
            return op == INVOKE ? args[n] : TAKES[op];
        }
    }

    /** CHECK: finds the DEPTHS of WORDS, or the first fault. */
    private static final class Checker {
        private final Program program;
        private final boolean[] passed = new boolean[MAX_WORDS];
        // No WORD of the FUNC ahead of this one waits to be gone through.
        private int lowest;

        Checker(Program program) {
            this.program = program;
        }

        int firstFault() {
            if (program.funcs == 0) {
                return FAULT_NO_FUNC;
            }
            for (int f = 0; f < program.funcs; f++) {
                if (program.lengths[f] == 0) {
                    return FAULT_NO_WORDS + FAULT_FUNC_STEP * f;
                }
            }
            for (int f = 0; f < program.funcs; f++) {
                int fault = faultOfFunc(f);
                if (fault != 0) {
                    return fault;
                }
            }
            return 0;
        }

        private int faultOfFunc(int f) {
            int start = program.starts[f];
            int length = program.lengths[f];
            for (int w = 0; w < length; w++) {
                program.depths[start + w] = NONE;
                passed[start + w] = false;
            }
            program.depths[start] = 0;
            lowest = 0;
            for (int gone = 0; gone < length; gone++) {
                int w = leastWaiting(start, length);
                if (w == NONE) {
                    return 0;
                }
                passed[start + w] = true;
                lowest = w + 1;
                int kind = faultOfWord(f, w);
                if (kind != 0) {
                    return kind + FAULT_FUNC_STEP * f + FAULT_WORD_STEP * w;
                }
            }
            return 0;
        }

        private int leastWaiting(int start, int length) {
            for (int w = lowest; w < length; w++) {
                if (program.depths[start + w] != NONE && !passed[start + w]) {
                    return w;
                }
            }
            return NONE;
        }

        private int faultOfWord(int f, int w) {
            int at = program.starts[f] + w;
            int op = program.ops[at];
            int n = program.numbers[at];
            if (!isFormed(f, op, n)) {
                return FAULT_FORM;
            }
            int takes = program.takes(op, n);
            if (program.depths[at] < takes) {
                return FAULT_TOO_FEW;
            }
            int behind = program.depths[at] - takes + PUTS[op];
            if (behind > MAX_STACK) {
                return FAULT_TOO_MANY;
            }
            if (op != JUMP && op != ANSWER) {
                if (w + 1 >= program.lengths[f]) {
                    return FAULT_NO_NEXT;
                }
                if (!reach(f, w + 1, behind)) {
                    return FAULT_OTHER_DEPTH;
                }
            }
            if ((op == JUMP || op == JUMP_IF_0) && !reach(f, n, behind)) {
                return FAULT_OTHER_DEPTH;
            }
            return 0;
        }

        private boolean isFormed(int f, int op, int n) {
            switch (op) {
                case FROM_LOCAL:
                case TO_LOCAL:
                    return n >= 0 && n < program.locals[f];
                case JUMP:
                case JUMP_IF_0:
                    return n >= 0 && n < program.lengths[f];
                case INVOKE:
                    return program.hasFunc(n);
                default:
                    return op >= PUSH && op <= TO_CELL;
            }
        }

        private boolean reach(int f, int w, int depth) {
            int at = program.starts[f] + w;
            if (program.depths[at] == NONE) {
                program.depths[at] = depth;
                lowest = Math.min(lowest, w);
            }
            return program.depths[at] == depth;
        }
    }

    /** TURNING, FUNC by FUNC; what it found is kept for each FUNC until the next time. */
    private static final class Turner {
        final Program program;
        final Places places = new Places();
        final Live live = new Live();
        final Homes homes = new Homes();
        final Code code = new Code();
        final Writer writer;
        final int[] placeCounts = new int[MAX_FUNCS];
        // R, and 0 as long as nothing is turned.
        int registers;

        Turner(Program program) {
            this.program = program;
            this.writer = new Writer(places, homes, code);
        }

        void begin(int r) {
            registers = r;
            code.total = 0;
        }

        void turnFunc(int f) {
            places.build(program, f);
            places.forward();
            leaveOut();
            placeCounts[f] = places.total;
            homes.give(f, places, live, registers - SPARE_REGISTERS);
            writer.begin(f, registers);
            writer.writeEntry(program, live.ahead[0]);
            writer.writePlaces();
        }

        // Each round but the last drops a place, so there are no more rounds than places and one.
        private void leaveOut() {
            int rounds = places.total + 1;
            for (int i = 0; i < rounds; i++) {
                live.find(places);
                if (!places.dropUseless(live)) {
                    return;
                }
            }
        }
    }

    /** What the WORDS of one FUNC became. */
    private static final class Places {
        final int[] kinds = new int[MAX_WORDS];
        // n of SET, the op of WORK, the FUNC of CALL.
        final int[] numbers = new int[MAX_WORDS];
        // Where GO and IFNOT go: a WORD while places are built, a place from then on.
        final int[] goals = new int[MAX_WORDS];
        // NONE for SWAP, too: it writes what it reads.
        final int[] written = new int[MAX_WORDS];
        final int[] readCounts = new int[MAX_WORDS];
        final int[][] reads = new int[MAX_ARGS][MAX_WORDS];
        int total;
        private final int[] newNumbers = new int[MAX_WORDS];
        private final boolean[] blockStarts = new boolean[MAX_WORDS];
        private final int[] copyOf = new int[MAX_VALUES];

        void build(Program program, int f) {
            total = 0;
            int start = program.starts[f];
            for (int w = 0; w < program.lengths[f]; w++) {
                newNumbers[w] = total;
                if (program.depths[start + w] != NONE) {
                    become(program, start + w, program.locals[f]);
                }
            }
            aimAnew();
        }

        private void become(Program program, int at, int localCount) {
            int n = program.numbers[at];
            int top = localCount + program.depths[at];
            switch (program.ops[at]) {
                case PUSH:
                    add(SET, top, n);
                    break;
                case FROM_LOCAL:
                    addReading(MOVE, top, n);
                    break;
                case TO_LOCAL:
                    addReading(MOVE, n, top - 1);
                    break;
                case TWICE:
                    addReading(MOVE, top, top - 1);
                    break;
                case FLIP:
                    addReading(SWAP, NONE, top - 1);
                    addRead(top - 2);
                    break;
                case DROP:
                    break;
                case JUMP:
                    add(GO, NONE, 0);
                    goals[total - 1] = n;
                    break;
                case JUMP_IF_0:
                    addReading(IFNOT, NONE, top - 1);
                    goals[total - 1] = n;
                    break;
                case INVOKE:
                    addCall(n, top, program.args[n]);
                    break;
                case ANSWER:
                    addReading(TELL, NONE, top - 1);
                    break;
                case FROM_CELL:
                    addReading(READ, top - 1, top - 1);
                    break;
                case TO_CELL:
                    addReading(WRITE, NONE, top - 1);
                    addRead(top - 2);
                    break;
                default:
                    add(WORK, top - 2, program.ops[at]);
                    addRead(top - 2);
                    addRead(top - 1);
                    break;
            }
        }

        private void addCall(int f, int top, int argCount) {
            add(CALL, top - argCount, f);
            for (int k = 0; k < argCount; k++) {
                addRead(top - argCount + k);
            }
        }

        private void addReading(int kind, int writtenValue, int readValue) {
            add(kind, writtenValue, 0);
            addRead(readValue);
        }

        private void add(int kind, int writtenValue, int number) {
            kinds[total] = kind;
            written[total] = writtenValue;
            numbers[total] = number;
            goals[total] = 0;
            readCounts[total] = 0;
            total++;
        }

        private void addRead(int v) {
            int p = total - 1;
            reads[readCounts[p]][p] = v;
            readCounts[p]++;
        }

        private void aimAnew() {
            for (int p = 0; p < total; p++) {
                if (jumps(p)) {
                    goals[p] = newNumbers[goals[p]];
                }
            }
        }

        boolean jumps(int p) {
            return kinds[p] == GO || kinds[p] == IFNOT;
        }

        boolean goesToNext(int p) {
            return kinds[p] != GO && kinds[p] != TELL && p + 1 < total;
        }

        int readSet(int p) {
            int set = 0;
            for (int k = 0; k < readCounts[p]; k++) {
                set |= 1 << reads[k][p];
            }
            return set;
        }

        int writtenSet(int p) {
            if (kinds[p] == SWAP) {
                return readSet(p);
            }
            return written[p] == NONE ? 0 : 1 << written[p];
        }

        void forward() {
            markBlockStarts();
            for (int p = 0; p < total; p++) {
                if (blockStarts[p]) {
                    Arrays.fill(copyOf, NONE);
                }
                forwardReads(p);
                forgetWritten(writtenSet(p));
                if (kinds[p] == MOVE && written[p] != reads[0][p]) {
                    copyOf[written[p]] = reads[0][p];
                }
            }
        }

        private void markBlockStarts() {
            for (int p = 0; p < total; p++) {
                blockStarts[p] = p == 0 || jumps(p - 1) || kinds[p - 1] == TELL;
            }
            for (int p = 0; p < total; p++) {
                if (jumps(p)) {
                    blockStarts[goals[p]] = true;
                }
            }
        }

        private void forwardReads(int p) {
            if (kinds[p] == SWAP) {
                return;
            }
            for (int k = 0; k < readCounts[p]; k++) {
                int source = copyOf[reads[k][p]];
                if (source != NONE) {
                    reads[k][p] = source;
                }
            }
        }

        private void forgetWritten(int set) {
            for (int v = 0; v < MAX_VALUES; v++) {
                boolean changed = (set >> v & 1) != 0;
                if (changed || copyOf[v] != NONE && (set >> copyOf[v] & 1) != 0) {
                    copyOf[v] = NONE;
                }
            }
        }

        /** Drops what is LEFT OUT by this LIVE, all at once; false if nothing is. */
        boolean dropUseless(Live live) {
            int kept = 0;
            for (int p = 0; p < total; p++) {
                newNumbers[p] = kept;
                if (!isUseless(p, live)) {
                    copyPlace(p, kept);
                    kept++;
                }
            }
            boolean dropped = kept < total;
            total = kept;
            aimAnew();
            return dropped;
        }

        private boolean isUseless(int p, Live live) {
            if (kinds[p] != SET && kinds[p] != MOVE) {
                return false;
            }
            boolean toItself = kinds[p] == MOVE && written[p] == reads[0][p];
            return toItself || (live.behind[p] >> written[p] & 1) == 0;
        }

        private void copyPlace(int from, int to) {
            kinds[to] = kinds[from];
            numbers[to] = numbers[from];
            goals[to] = goals[from];
            written[to] = written[from];
            readCounts[to] = readCounts[from];
            for (int k = 0; k < readCounts[from]; k++) {
                reads[k][to] = reads[k][from];
            }
        }
    }

    /** Which values are LIVE ahead of each place and behind it, as sets of bits. */
    private static final class Live {
        final int[] ahead = new int[MAX_WORDS];
        final int[] behind = new int[MAX_WORDS];

        void find(Places places) {
            Arrays.fill(ahead, 0);
            // Each round but the last adds a value to a place.
            int rounds = places.total * MAX_VALUES + 1;
            for (int i = 0; i < rounds; i++) {
                if (!growBackwards(places)) {
                    return;
                }
            }
        }

        private boolean growBackwards(Places places) {
            boolean grew = false;
            for (int p = places.total - 1; p >= 0; p--) {
                int set = places.goesToNext(p) ? ahead[p + 1] : 0;
                if (places.jumps(p)) {
                    set |= ahead[places.goals[p]];
                }
                behind[p] = set;
                int all = places.readSet(p) | set & ~places.writtenSet(p);
                grew = grew || all != ahead[p];
                ahead[p] = all;
            }
            return grew;
        }
    }

    /** SPANS and SCAN: where the values of each FUNC live. */
    private static final class Homes {
        private final int[] firsts = new int[MAX_FUNCS * MAX_VALUES];
        private final int[] lasts = new int[MAX_FUNCS * MAX_VALUES];
        private final int[] registers = new int[MAX_FUNCS * MAX_VALUES];
        private final int[] slotNumbers = new int[MAX_FUNCS * MAX_VALUES];
        final int[] slotCounts = new int[MAX_FUNCS];
        private final int[] holders = new int[MAX_REGISTERS];

        int registerOf(int f, int v) {
            return registers[f * MAX_VALUES + v];
        }

        int slotOf(int f, int v) {
            return slotNumbers[f * MAX_VALUES + v];
        }

        int tell(int f, int v, int what) {
            int at = f * MAX_VALUES + v;
            switch (what) {
                case 0:
                    return firsts[at];
                case 1:
                    return lasts[at];
                case 2:
                    return registers[at];
                case 3:
                    return slotNumbers[at];
                default:
                    return NONE;
            }
        }

        void give(int f, Places places, Live live, int free) {
            int base = f * MAX_VALUES;
            forget(base);
            slotCounts[f] = 0;
            for (int p = 0; p < places.total; p++) {
                widen(base, p, live.ahead[p] | places.readSet(p) | places.writtenSet(p));
            }
            for (int p = 0; p < places.total; p++) {
                for (int v = 0; v < MAX_VALUES; v++) {
                    if (firsts[base + v] == p) {
                        giveOne(f, v, free);
                    }
                }
            }
        }

        private void forget(int base) {
            for (int v = 0; v < MAX_VALUES; v++) {
                firsts[base + v] = NONE;
                lasts[base + v] = NONE;
                registers[base + v] = NONE;
                slotNumbers[base + v] = NONE;
            }
            Arrays.fill(holders, NONE);
        }

        private void widen(int base, int p, int set) {
            for (int v = 0; v < MAX_VALUES; v++) {
                if ((set >> v & 1) != 0) {
                    lasts[base + v] = p;
                    if (firsts[base + v] == NONE) {
                        firsts[base + v] = p;
                    }
                }
            }
        }

        private void giveOne(int f, int v, int free) {
            int base = f * MAX_VALUES;
            giveBack(base, firsts[base + v], free);
            for (int r = 0; r < free; r++) {
                if (holders[r] == NONE) {
                    holders[r] = v;
                    registers[base + v] = r;
                    return;
                }
            }
            int longest = longestWith(base, v, free);
            slotNumbers[base + longest] = slotCounts[f];
            slotCounts[f]++;
            if (longest != v) {
                int r = registers[base + longest];
                registers[base + longest] = NONE;
                registers[base + v] = r;
                holders[r] = v;
            }
        }

        private void giveBack(int base, int place, int free) {
            for (int r = 0; r < free; r++) {
                if (holders[r] != NONE && lasts[base + holders[r]] < place) {
                    holders[r] = NONE;
                }
            }
        }

        // Called when every register has a holder.
        private int longestWith(int base, int v, int free) {
            int longest = v;
            for (int r = 0; r < free; r++) {
                int other = holders[r];
                int longer = lasts[base + other] - lasts[base + longest];
                if (longer > 0 || longer == 0 && other > longest) {
                    longest = other;
                }
            }
            return longest;
        }
    }

    /** The REGISTER CODE of all FUNCS behind one another, each op in five elements. */
    private static final class Code {
        static final int FIELDS = 5;
        private static final int FIRST_ROOM = 400;
        // A CALL with all its ARGS in SLOTS: LOAD and PASS for each, CALL, GET, SAVE.
        private static final int MOST_OF_PLACE = 2 * MAX_ARGS + 3;
        private static final int MOST_OF_ENTRY = 2 * MAX_LOCALS;

        final int[] starts = new int[MAX_FUNCS];
        final int[] sizes = new int[MAX_FUNCS];
        int total;
        private int[] parts = new int[FIRST_ROOM * FIELDS];

        /** Begins a FUNC. Most code is far shorter than the longest, so the row grows when it must. */
        void open(int f, int placeCount) {
            int needed = (total + MOST_OF_ENTRY + placeCount * MOST_OF_PLACE) * FIELDS;
            if (needed > parts.length) {
                parts = Arrays.copyOf(parts, Math.max(needed, parts.length * 2));
            }
            starts[f] = total;
            sizes[f] = 0;
        }

        void add(int f, int kind, int a, int b) {
            int at = total * FIELDS;
            parts[at] = kind;
            parts[at + 1] = a;
            parts[at + 2] = b;
            parts[at + 3] = 0;
            parts[at + 4] = 0;
            total++;
            sizes[f]++;
        }

        void addWork(int f, int a, int b, int c, int op) {
            add(f, WORK, a, b);
            int at = (total - 1) * FIELDS;
            parts[at + 3] = c;
            parts[at + 4] = op;
        }

        int part(int f, int i, int what) {
            return parts[(starts[f] + i) * FIELDS + what];
        }

        void aim(int f, int[] firstOps) {
            for (int i = 0; i < sizes[f]; i++) {
                int at = (starts[f] + i) * FIELDS;
                if (parts[at] == GO) {
                    parts[at + 1] = firstOps[parts[at + 1]];
                } else if (parts[at] == IFNOT) {
                    parts[at + 2] = firstOps[parts[at + 2]];
                }
            }
        }
    }

    /** Writes the REGISTER CODE of one FUNC from its places and the homes of its values. */
    private static final class Writer {
        private final Places places;
        private final Homes homes;
        private final Code code;
        private final int[] firstOps = new int[MAX_WORDS];
        private int func;
        private int spareA;
        private int spareB;

        Writer(Places places, Homes homes, Code code) {
            this.places = places;
            this.homes = homes;
            this.code = code;
        }

        void begin(int f, int registers) {
            func = f;
            spareA = registers - 2;
            spareB = registers - 1;
            code.open(f, places.total);
        }

        void writeEntry(Program program, int liveFirst) {
            for (int v = 0; v < program.locals[func]; v++) {
                if ((liveFirst >> v & 1) != 0) {
                    if (v < program.args[func]) {
                        code.add(func, TAKE, target(v), v);
                    } else {
                        code.add(func, SET, target(v), 0);
                    }
                    saveTarget(v);
                }
            }
        }

        void writePlaces() {
            for (int p = 0; p < places.total; p++) {
                firstOps[p] = code.sizes[func];
                writePlace(p);
            }
            code.aim(func, firstOps);
        }

        private void writePlace(int p) {
            switch (places.kinds[p]) {
                case SET:
                    code.add(func, SET, target(places.written[p]), places.numbers[p]);
                    saveTarget(places.written[p]);
                    break;
                case MOVE:
                    writeMove(places.written[p], places.reads[0][p]);
                    break;
                case WORK:
                    writeWork(p);
                    break;
                case SWAP:
                    writeSwap(places.reads[0][p], places.reads[1][p]);
                    break;
                case GO:
                    code.add(func, GO, places.goals[p], 0);
                    break;
                case IFNOT:
                    code.add(func, IFNOT, loaded(places.reads[0][p], spareA), places.goals[p]);
                    break;
                case TELL:
                    code.add(func, TELL, loaded(places.reads[0][p], spareA), 0);
                    break;
                case READ:
                    writeRead(places.written[p], places.reads[0][p]);
                    break;
                case WRITE:
                    writeWrite(places.reads[0][p], places.reads[1][p]);
                    break;
                default:
                    writeCall(p);
                    break;
            }
        }

        private void writeWork(int p) {
            int left = loaded(places.reads[0][p], spareA);
            int right = loaded(places.reads[1][p], spareB);
            int into = target(places.written[p]);
            code.addWork(func, into, left, right, places.numbers[p]);
            saveTarget(places.written[p]);
        }

        private void writeRead(int to, int address) {
            int from = loaded(address, spareA);
            code.add(func, READ, target(to), from);
            saveTarget(to);
        }

        private void writeWrite(int address, int source) {
            int to = loaded(address, spareA);
            int from = loaded(source, spareB);
            code.add(func, WRITE, to, from);
        }

        private void writeMove(int to, int from) {
            int toSlot = homes.slotOf(func, to);
            int fromSlot = homes.slotOf(func, from);
            if (toSlot == NONE) {
                moveInto(homes.registerOf(func, to), from);
            } else if (fromSlot == NONE) {
                code.add(func, SAVE, toSlot, homes.registerOf(func, from));
            } else if (toSlot != fromSlot) {
                code.add(func, LOAD, spareA, fromSlot);
                code.add(func, SAVE, toSlot, spareA);
            }
        }

        private void writeSwap(int x, int y) {
            boolean inRegisters = homes.slotOf(func, x) == NONE && homes.slotOf(func, y) == NONE;
            if (inRegisters) {
                code.add(func, SWAP, homes.registerOf(func, x), homes.registerOf(func, y));
                return;
            }
            moveInto(spareA, x);
            moveInto(spareB, y);
            moveFrom(x, spareB);
            moveFrom(y, spareA);
        }

        private void writeCall(int p) {
            for (int k = 0; k < places.readCounts[p]; k++) {
                code.add(func, PASS, k, loaded(places.reads[k][p], spareA));
            }
            code.add(func, CALL, places.numbers[p], 0);
            code.add(func, GET, target(places.written[p]), 0);
            saveTarget(places.written[p]);
        }

        private void moveInto(int register, int v) {
            int slot = homes.slotOf(func, v);
            if (slot != NONE) {
                code.add(func, LOAD, register, slot);
            } else if (register != homes.registerOf(func, v)) {
                code.add(func, MOVE, register, homes.registerOf(func, v));
            }
        }

        private void moveFrom(int v, int register) {
            int slot = homes.slotOf(func, v);
            if (slot != NONE) {
                code.add(func, SAVE, slot, register);
            } else {
                code.add(func, MOVE, homes.registerOf(func, v), register);
            }
        }

        private int loaded(int v, int spare) {
            int slot = homes.slotOf(func, v);
            if (slot == NONE) {
                return homes.registerOf(func, v);
            }
            code.add(func, LOAD, spare, slot);
            return spare;
        }

        private int target(int v) {
            return homes.slotOf(func, v) == NONE ? homes.registerOf(func, v) : spareA;
        }

        private void saveTarget(int v) {
            int slot = homes.slotOf(func, v);
            if (slot != NONE) {
                code.add(func, SAVE, slot, spareA);
            }
        }
    }

    /** What both machines have: a MEMORY, calls within one another, STEPS and an end. */
    private abstract static class Machine {
        final int[] memory = new int[CELLS];
        private final int[] funcs = new int[MAX_CALLS];
        private final int[] nexts = new int[MAX_CALLS];
        private int end;
        private int told;
        private int steps;
        private int calls;
        private int nested;

        /** One STEP: the WORD or op with this number in this FUNC. */
        abstract void step(int func, int at);

        /** Makes a new call's own room ready, the one with this number from 0. */
        abstract void openRoom(int func, int room);

        /** Hands what a call told to the one that it was within. */
        abstract void takeAnswer(int answer);

        void begin() {
            end = 0;
            told = 0;
            steps = 0;
            calls = 0;
            nested = 0;
        }

        int goOn(int n) {
            for (int i = 0; i < n && end == 0; i++) {
                if (nested == 0) {
                    enter(0);
                }
                int now = room();
                steps++;
                nexts[now]++;
                step(funcs[now], nexts[now] - 1);
            }
            return end;
        }

        int tell(int what) {
            switch (what) {
                case 0:
                    return end;
                case 1:
                    return told;
                case 2:
                    return steps;
                case 3:
                    return calls;
                case 4:
                    return nested;
                default:
                    return NONE;
            }
        }

        final int room() {
            return nested - 1;
        }

        final void jump(int at) {
            nexts[room()] = at;
        }

        final void finish(int how) {
            end = how;
            nested = 0;
        }

        final void enter(int func) {
            if (nested >= MAX_CALLS) {
                finish(END_CALLS);
                return;
            }
            openRoom(func, nested);
            funcs[nested] = func;
            nexts[nested] = 0;
            nested++;
            calls++;
        }

        final void leave(int answer) {
            if (nested <= 1) {
                told = answer;
                finish(END_TOLD);
                return;
            }
            nested--;
            takeAnswer(answer);
        }

        /** False, and the run has ended, if the cell is none. */
        final boolean hasCell(int k) {
            if (k >= 0 && k < CELLS) {
                return true;
            }
            finish(END_CELL);
            return false;
        }

        /** False, and the run has ended, if it is a division by 0. */
        final boolean canReckon(int op, int s) {
            if (op != DIVIDE || s != 0) {
                return true;
            }
            finish(END_DIVISION);
            return false;
        }
    }

    /** Runs the WORDS. */
    private static final class StackMachine extends Machine {
        private final Program program;
        private final int[] locals = new int[MAX_CALLS * MAX_LOCALS];
        // The STACKS of all calls on one another; each call's begins where its bottom is.
        private final int[] stack = new int[MAX_CALLS * MAX_STACK];
        private final int[] bottoms = new int[MAX_CALLS];
        private int top;

        StackMachine(Program program) {
            this.program = program;
        }

        void begin() {
            super.begin();
            top = 0;
        }

        void openRoom(int func, int room) {
            int base = room * MAX_LOCALS;
            // Nobody has put main's ARGS on a STACK.
            int argCount = room == 0 ? 0 : program.args[func];
            top -= argCount;
            for (int k = 0; k < MAX_LOCALS; k++) {
                locals[base + k] = k < argCount ? stack[top + k] : 0;
            }
            bottoms[room] = top;
        }

        void takeAnswer(int answer) {
            top = bottoms[room() + 1];
            push(answer);
        }

        void step(int func, int at) {
            int op = program.ops[program.starts[func] + at];
            int n = program.numbers[program.starts[func] + at];
            switch (op) {
                case PUSH:
                    push(n);
                    break;
                case FROM_LOCAL:
                    push(locals[room() * MAX_LOCALS + n]);
                    break;
                case TO_LOCAL:
                    locals[room() * MAX_LOCALS + n] = pop();
                    break;
                case TWICE:
                    push(stack[top - 1]);
                    break;
                case FLIP:
                    flip();
                    break;
                case DROP:
                    pop();
                    break;
                case JUMP:
                    jump(n);
                    break;
                case JUMP_IF_0:
                    if (pop() == 0) {
                        jump(n);
                    }
                    break;
                case INVOKE:
                    enter(n);
                    break;
                case ANSWER:
                    leave(pop());
                    break;
                case FROM_CELL:
                    fetch(pop());
                    break;
                case TO_CELL:
                    store(pop(), pop());
                    break;
                default:
                    work(op, pop(), pop());
                    break;
            }
        }

        private void push(int v) {
            stack[top] = v;
            top++;
        }

        private int pop() {
            top--;
            return stack[top];
        }

        private void flip() {
            int s = pop();
            int t = pop();
            push(s);
            push(t);
        }

        private void fetch(int k) {
            if (hasCell(k)) {
                push(memory[k]);
            }
        }

        private void store(int k, int v) {
            if (hasCell(k)) {
                memory[k] = v;
            }
        }

        private void work(int op, int s, int t) {
            if (canReckon(op, s)) {
                push(reckon(op, t, s));
            }
        }
    }

    /** Runs the REGISTER CODE. */
    private static final class RegisterMachine extends Machine {
        private final Code code;
        private final int[] registers = new int[MAX_CALLS * MAX_REGISTERS];
        private final int[] slotCells = new int[MAX_CALLS * MAX_VALUES];
        // A FUNC takes its ARGS ahead of passing any, so one row serves all calls.
        private final int[] passed = new int[MAX_ARGS];
        private int answered;

        RegisterMachine(Code code) {
            this.code = code;
        }

        void begin() {
            super.begin();
            answered = 0;
            Arrays.fill(passed, 0);
        }

        void openRoom(int func, int room) {
            int base = room * MAX_REGISTERS;
            for (int k = 0; k < MAX_REGISTERS; k++) {
                registers[base + k] = 0;
            }
            int slotBase = room * MAX_VALUES;
            for (int k = 0; k < MAX_VALUES; k++) {
                slotCells[slotBase + k] = 0;
            }
        }

        void takeAnswer(int answer) {
            answered = answer;
        }

        void step(int func, int at) {
            int a = code.part(func, at, 1);
            int b = code.part(func, at, 2);
            int base = room() * MAX_REGISTERS;
            switch (code.part(func, at, 0)) {
                case SET:
                    registers[base + a] = b;
                    break;
                case MOVE:
                    registers[base + a] = registers[base + b];
                    break;
                case WORK:
                    work(func, at, base);
                    break;
                case SWAP:
                    swap(base + a, base + b);
                    break;
                case GO:
                    jump(a);
                    break;
                case IFNOT:
                    if (registers[base + a] == 0) {
                        jump(b);
                    }
                    break;
                case TELL:
                    leave(registers[base + a]);
                    break;
                case READ:
                    fetch(base + a, registers[base + b]);
                    break;
                case WRITE:
                    store(registers[base + a], registers[base + b]);
                    break;
                case LOAD:
                    registers[base + a] = slotCells[room() * MAX_VALUES + b];
                    break;
                case SAVE:
                    slotCells[room() * MAX_VALUES + a] = registers[base + b];
                    break;
                case TAKE:
                    registers[base + a] = passed[b];
                    break;
                case PASS:
                    passed[a] = registers[base + b];
                    break;
                case CALL:
                    enter(a);
                    break;
                default:
                    registers[base + a] = answered;
                    break;
            }
        }

        private void work(int func, int at, int base) {
            int op = code.part(func, at, 4);
            int t = registers[base + code.part(func, at, 2)];
            int s = registers[base + code.part(func, at, 3)];
            if (canReckon(op, s)) {
                registers[base + code.part(func, at, 1)] = reckon(op, t, s);
            }
        }

        private void swap(int x, int y) {
            int kept = registers[x];
            registers[x] = registers[y];
            registers[y] = kept;
        }

        private void fetch(int into, int k) {
            if (hasCell(k)) {
                registers[into] = memory[k];
            }
        }

        private void store(int k, int v) {
            if (hasCell(k)) {
                memory[k] = v;
            }
        }
    }
}
