/**
 * A simulator of caches that are kept coherent by a directory, with speculative transactions.
 * All rows are made in the constructors and used again: no call makes an object afterwards.
 */
public final class SpeculativeCaches {
    public static final int NONE = -1;

    private static final int LINES = 8;
    private static final int MIN_CORES = 2;
    private static final int MAX_CORES = 4;
    private static final int POLICIES = 3;
    private static final int MAX_BUFFER = 8;
    private static final int MAX_SEED = 999999;
    private static final int MAX_BYTE = 127;
    private static final int MAX_TEXT = 120;
    private static final int MAX_INSTRUCTIONS = 30;
    private static final int MAX_DIGITS = 3;
    private static final int MAX_LOGGED = 400;
    private static final int MAX_SAVED = 4;
    private static final int MAX_RUN = 1000;
    private static final int FINISH_LIMIT = 2000;
    private static final int SYNTAX_ERROR = -10;
    private static final int OWN_ABORTED = 8;

    private static final int DEFAULT_CORES = 2;
    private static final int DEFAULT_POLICY = 0;
    private static final int DEFAULT_BUFFER = 4;
    private static final int DEFAULT_SEED = 1;

    private static final int REQUESTER_WINS = 0;
    private static final int HOLDER_WINS = 1;

    private static final int INVALID = 0;
    private static final int SHARED = 1;
    private static final int MODIFIED = 2;

    private static final int KIND_BEGIN = 0;
    private static final int KIND_COMMIT = 1;
    private static final int KIND_READ = 2;
    private static final int KIND_WRITE = 3;
    private static final int KIND_ADD = 4;

    private static final int READ_MISSES = 0;
    private static final int WRITE_MISSES = 1;
    private static final int UPGRADES = 2;
    private static final int INVALIDATIONS = 3;
    private static final int WRITEBACKS = 4;
    private static final int CONFLICT_ABORTS = 5;
    private static final int CAPACITY_ABORTS = 6;
    private static final int STEPS = 7;
    private static final int COUNTERS = 8;

    private static final int CORE_FACTS = 6;
    private static final int SIMULATOR_FACTS = 5;
    private static final int COMMIT_FACTS = 4;

    private static final long SCHEDULER_FACTOR = 1103515245L;
    private static final long SCHEDULER_SUMMAND = 12345L;
    private static final long SCHEDULER_MODULUS = 2147483648L;
    private static final int SCHEDULER_DIVISOR = 65536;

    private static final long DIGEST_START = 3011L;
    private static final long DIGEST_FACTOR = 31L;

    private final int[] text;
    private int textLength;
    private final ProgramReader reader;
    private final Machine now;
    private final Machine trial;
    private final Machine[] saved;
    private int oldestSaved;
    private int savedCount;
    private final int[] replayed;

    public SpeculativeCaches() {
        text = new int[MAX_TEXT];
        textLength = 0;
        reader = new ProgramReader();
        now = new Machine(MAX_LOGGED);
        // What-if runs answer nothing of the log, so theirs has no room.
        trial = new Machine(0);
        saved = new Machine[MAX_SAVED];
        for (int i = 0; i < MAX_SAVED; i++) {
            saved[i] = new Machine(MAX_LOGGED);
        }
        oldestSaved = 0;
        savedCount = 0;
        replayed = new int[LINES];
    }

    // Settings

    public int begin(int cores, int policy, int buffer) throws IllegalArgumentException {
        if (cores < MIN_CORES || cores > MAX_CORES || !isPolicy(policy) || buffer < 1 || buffer > MAX_BUFFER) {
            throw new IllegalArgumentException("an argument is out of range");
        }
        saveState();
        int logged = now.log.count;
        now.startAnew(cores, policy, buffer);
        return logged;
    }

    public int setPolicy(int policy) throws IllegalArgumentException {
        if (!isPolicy(policy)) {
            throw new IllegalArgumentException("policy is out of range");
        }
        saveState();
        int previous = now.policy;
        now.policy = policy;
        return previous;
    }

    public int seed(int seed) throws IllegalArgumentException {
        if (seed < 0 || seed > MAX_SEED) {
            throw new IllegalArgumentException("seed is out of range");
        }
        saveState();
        int previous = now.schedulerNumber;
        now.schedulerNumber = seed;
        return previous;
    }

    // Programs

    public int append(int value) throws IllegalArgumentException, IllegalStateException {
        if (value < 0 || value > MAX_BYTE) {
            throw new IllegalArgumentException("value is out of range");
        }
        if (textLength < 0 || textLength >= MAX_TEXT) {
            throw new IllegalStateException("the text is full");
        }
        text[textLength] = value;
        textLength++;
        return textLength;
    }

    public int clearText() {
        int previous = textLength;
        textLength = 0;
        return previous;
    }

    public int load(int core) throws IndexOutOfBoundsException, IllegalStateException {
        if (!now.hasCore(core)) {
            throw new IndexOutOfBoundsException("there is no such core");
        }
        if (now.cores[core].inTransaction()) {
            throw new IllegalStateException("the core has a transaction");
        }
        int error = reader.readText(text, textLength);
        if (error != NONE) {
            return SYNTAX_ERROR - error;
        }
        saveState();
        now.cores[core].takeProgram(reader.program);
        return now.cores[core].program.length;
    }

    public int again(int core) throws IndexOutOfBoundsException, IllegalStateException {
        if (!now.hasCore(core)) {
            throw new IndexOutOfBoundsException("there is no such core");
        }
        if (!now.cores[core].isFinished() || now.cores[core].inTransaction()) {
            throw new IllegalStateException("the core is not finished or has a transaction");
        }
        saveState();
        now.cores[core].position = 0;
        return now.cores[core].program.length;
    }

    // Steps

    public int step(int core) throws IndexOutOfBoundsException, IllegalStateException {
        if (!now.hasCore(core)) {
            throw new IndexOutOfBoundsException("there is no such core");
        }
        if (now.cores[core].isFinished()) {
            throw new IllegalStateException("the core is finished");
        }
        saveState();
        return now.stepCore(core);
    }

    public int run(int steps) throws IllegalArgumentException {
        if (!isRunLength(steps)) {
            throw new IllegalArgumentException("steps is out of range");
        }
        saveState();
        now.stepOften(steps);
        return now.finishedCores();
    }

    public int poke(int line, int value) throws IndexOutOfBoundsException {
        if (!isLine(line)) {
            throw new IndexOutOfBoundsException("there is no such line");
        }
        saveState();
        return now.writeFromOutside(line, value);
    }

    // What there is

    public int state(int core, int line) throws IndexOutOfBoundsException {
        if (!now.hasCore(core) || !isLine(line)) {
            throw new IndexOutOfBoundsException("there is no such core or line");
        }
        return now.cores[core].lineStates[line];
    }

    public int cached(int core, int line) throws IndexOutOfBoundsException {
        if (!now.hasCore(core) || !isLine(line)) {
            throw new IndexOutOfBoundsException("there is no such core or line");
        }
        Core owner = now.cores[core];
        return owner.lineStates[line] == INVALID ? 0 : owner.lineValues[line];
    }

    public int memory(int line, boolean committed) throws IndexOutOfBoundsException {
        if (!isLine(line)) {
            throw new IndexOutOfBoundsException("there is no such line");
        }
        return committed ? now.committedValue(line) : now.memoryValues[line];
    }

    public int set(int core, boolean write) throws IndexOutOfBoundsException {
        if (!now.hasCore(core)) {
            throw new IndexOutOfBoundsException("there is no such core");
        }
        return write ? now.cores[core].writeSet : now.cores[core].readSet;
    }

    public int core(int core, int what) throws IndexOutOfBoundsException, IllegalArgumentException {
        if (!now.hasCore(core)) {
            throw new IndexOutOfBoundsException("there is no such core");
        }
        if (what < 0 || what >= CORE_FACTS) {
            throw new IllegalArgumentException("what is out of range");
        }
        return now.cores[core].fact(what);
    }

    public int value(int what) throws IllegalArgumentException {
        if (what < 0 || what >= SIMULATOR_FACTS) {
            throw new IllegalArgumentException("what is out of range");
        }
        return now.fact(what);
    }

    public int counter(int what) throws IllegalArgumentException {
        if (what < 0 || what >= COUNTERS) {
            throw new IllegalArgumentException("what is out of range");
        }
        return now.counters[what];
    }

    // Log

    public int commits() {
        return now.log.count;
    }

    public int commit(int commit, int what) throws IndexOutOfBoundsException, IllegalArgumentException {
        if (!now.log.hasEntry(commit)) {
            throw new IndexOutOfBoundsException("there is no such commit");
        }
        if (what < 0 || what >= COMMIT_FACTS) {
            throw new IllegalArgumentException("what is out of range");
        }
        return now.log.fact(commit, what);
    }

    public int commitValue(int commit, int line, boolean write) throws IndexOutOfBoundsException {
        if (!now.log.hasEntry(commit) || !isLine(line)) {
            throw new IndexOutOfBoundsException("there is no such commit or line");
        }
        return now.log.lineValue(commit, line, write);
    }

    public boolean serializable() {
        return now.log.replaysOn(replayed);
    }

    // What if

    public int finish(int policy) throws IllegalArgumentException {
        if (!isPolicy(policy)) {
            throw new IllegalArgumentException("policy is out of range");
        }
        startTrial(policy);
        return trial.stepsUntilFinished();
    }

    public int abortsWith(int policy, int steps) throws IllegalArgumentException {
        if (!isPolicy(policy) || !isRunLength(steps)) {
            throw new IllegalArgumentException("an argument is out of range");
        }
        startTrial(policy);
        int before = trial.abortsSoFar();
        trial.stepOften(steps);
        return trial.abortsSoFar() - before;
    }

    public int bestPolicy() {
        int best = NONE;
        int fewest = 0;
        for (int policy = 0; policy < POLICIES; policy++) {
            startTrial(policy);
            int steps = trial.stepsUntilFinished();
            if (steps != NONE && (best == NONE || steps < fewest)) {
                best = policy;
                fewest = steps;
            }
        }
        return best;
    }

    // State

    public int undo() throws IllegalStateException {
        if (savedCount <= 0) {
            throw new IllegalStateException("there is no saved state");
        }
        savedCount--;
        now.copyFrom(saved[(oldestSaved + savedCount) % MAX_SAVED]);
        return savedCount;
    }

    public long digest() {
        long h = mix(DIGEST_START, textLength);
        for (int what = 0; what < SIMULATOR_FACTS; what++) {
            h = mix(h, now.fact(what));
        }
        h = mix(h, now.schedulerNumber);
        for (int core = 0; core < now.coreCount; core++) {
            h = mixCore(h, core);
        }
        for (int line = 0; line < LINES; line++) {
            h = mix(h, memory(line, false));
        }
        for (int line = 0; line < LINES; line++) {
            h = mix(h, memory(line, true));
        }
        for (int what = 0; what < COUNTERS; what++) {
            h = mix(h, now.counters[what]);
        }
        h = mix(h, now.log.count);
        return mix(h, savedCount);
    }

    private long mixCore(long start, int core) {
        long h = start;
        for (int what = 0; what < CORE_FACTS; what++) {
            h = mix(h, core(core, what));
        }
        h = mix(h, set(core, false));
        h = mix(h, set(core, true));
        for (int line = 0; line < LINES; line++) {
            h = mix(h, state(core, line));
            h = mix(h, cached(core, line));
        }
        return h;
    }

    private static long mix(long h, int value) {
        return DIGEST_FACTOR * h + value;
    }

    private void saveState() {
        saved[(oldestSaved + savedCount) % MAX_SAVED].copyFrom(now);
        if (savedCount < MAX_SAVED) {
            savedCount++;
        } else {
            oldestSaved = (oldestSaved + 1) % MAX_SAVED;
        }
    }

    private void startTrial(int policy) {
        trial.copyFrom(now);
        trial.policy = policy;
    }

    private static boolean isPolicy(int policy) {
        return policy >= 0 && policy < POLICIES;
    }

    private static boolean isLine(int line) {
        return line >= 0 && line < LINES;
    }

    private static boolean isRunLength(int steps) {
        return steps >= 0 && steps <= MAX_RUN;
    }

    private static boolean contains(int lines, int line) {
        return (lines & 1 << line) != 0;
    }

    /** The instructions of a core. */
    private static final class Program {
        private final int[] kinds;
        private final int[] operands;
        private int length;

        private Program() {
            kinds = new int[MAX_INSTRUCTIONS];
            operands = new int[MAX_INSTRUCTIONS];
            length = 0;
        }

        private boolean isFull() {
            return length >= MAX_INSTRUCTIONS;
        }

        private void addInstruction(int kind, int operand) {
            if (length < 0 || isFull()) {
                return;
            }
            kinds[length] = kind;
            operands[length] = operand;
            length++;
        }

        private void copyFrom(Program other) {
            System.arraycopy(other.kinds, 0, kinds, 0, MAX_INSTRUCTIONS);
            System.arraycopy(other.operands, 0, operands, 0, MAX_INSTRUCTIONS);
            length = other.length;
        }
    }

    /** Makes a program of a text, byte by byte. */
    private static final class ProgramReader {
        private static final int WANTS_INSTRUCTION = 0;
        private static final int WANTS_LINE = 1;
        private static final int WANTS_MINUS_OR_DIGIT = 2;
        private static final int WANTS_DIGIT = 3;
        private static final int WANTS_DIGIT_OR_END = 4;
        private static final int WANTS_END = 5;

        private final Program program;
        private int wants;
        private int kind;
        private int number;
        private int digits;
        private boolean negative;

        private ProgramReader() {
            program = new Program();
            wants = WANTS_INSTRUCTION;
            kind = KIND_BEGIN;
            number = 0;
            digits = 0;
            negative = false;
        }

        /** Returns the syntax error position, NONE if there is none. */
        private int readText(int[] bytes, int length) {
            program.length = 0;
            wants = WANTS_INSTRUCTION;
            for (int at = 0; at < length && at < bytes.length; at++) {
                if (!accepts(bytes[at])) {
                    return at;
                }
            }
            return wants == WANTS_INSTRUCTION ? NONE : length;
        }

        private boolean accepts(int sign) {
            switch (wants) {
                case WANTS_INSTRUCTION:
                    return acceptsInstruction(sign);
                case WANTS_LINE:
                    return acceptsLine(sign);
                case WANTS_MINUS_OR_DIGIT:
                    return acceptsMinus(sign) || acceptsDigit(sign);
                case WANTS_DIGIT:
                    return acceptsDigit(sign);
                case WANTS_DIGIT_OR_END:
                    return acceptsDigit(sign) || acceptsEnd(sign);
                default:
                    return acceptsEnd(sign);
            }
        }

        private boolean acceptsInstruction(int sign) {
            if (program.isFull()) {
                return false;
            }
            number = 0;
            digits = 0;
            negative = false;
            switch (sign) {
                case 'b':
                    return expect(KIND_BEGIN, WANTS_END);
                case 'c':
                    return expect(KIND_COMMIT, WANTS_END);
                case 'r':
                    return expect(KIND_READ, WANTS_LINE);
                case 'w':
                    return expect(KIND_WRITE, WANTS_LINE);
                case 'a':
                    return expect(KIND_ADD, WANTS_MINUS_OR_DIGIT);
                default:
                    return false;
            }
        }

        private boolean expect(int newKind, int next) {
            kind = newKind;
            wants = next;
            return true;
        }

        private boolean acceptsLine(int sign) {
            if (!isLine(sign - '0')) {
                return false;
            }
            number = sign - '0';
            wants = WANTS_END;
            return true;
        }

        private boolean acceptsMinus(int sign) {
            if (sign != '-') {
                return false;
            }
            negative = true;
            wants = WANTS_DIGIT;
            return true;
        }

        private boolean acceptsDigit(int sign) {
            if (sign < '0' || sign > '9') {
                return false;
            }
            number = 10 * number + (sign - '0');
            digits++;
            wants = digits < MAX_DIGITS ? WANTS_DIGIT_OR_END : WANTS_END;
            return true;
        }

        private boolean acceptsEnd(int sign) {
            if (sign != ';') {
                return false;
            }
            program.addInstruction(kind, negative ? -number : number);
            wants = WANTS_INSTRUCTION;
            return true;
        }
    }

    /** A core with its cache, its program and its transaction. */
    private static final class Core {
        private final int[] lineStates;
        private final int[] lineValues;
        private final Program program;
        private int position;
        private int accumulator;
        private int transaction;
        /** The number of an aborted transaction that is to be begun again. */
        private int keptNumber;
        private int rememberedPosition;
        private int rememberedAccumulator;
        private int readSet;
        private int writeSet;
        private int firstReads;
        private final int[] firstValues;
        private int commitsDone;
        private int aborts;

        private Core() {
            lineStates = new int[LINES];
            lineValues = new int[LINES];
            program = new Program();
            firstValues = new int[LINES];
            transaction = NONE;
            keptNumber = NONE;
        }

        private void clear() {
            for (int line = 0; line < LINES; line++) {
                lineStates[line] = INVALID;
                lineValues[line] = 0;
            }
            program.length = 0;
            position = 0;
            accumulator = 0;
            endTransaction();
            keptNumber = NONE;
            commitsDone = 0;
            aborts = 0;
        }

        private void copyFrom(Core other) {
            System.arraycopy(other.lineStates, 0, lineStates, 0, LINES);
            System.arraycopy(other.lineValues, 0, lineValues, 0, LINES);
            program.copyFrom(other.program);
            position = other.position;
            accumulator = other.accumulator;
            transaction = other.transaction;
            keptNumber = other.keptNumber;
            rememberedPosition = other.rememberedPosition;
            rememberedAccumulator = other.rememberedAccumulator;
            readSet = other.readSet;
            writeSet = other.writeSet;
            firstReads = other.firstReads;
            System.arraycopy(other.firstValues, 0, firstValues, 0, LINES);
            commitsDone = other.commitsDone;
            aborts = other.aborts;
        }

        private void takeProgram(Program newProgram) {
            program.copyFrom(newProgram);
            position = 0;
            accumulator = 0;
            keptNumber = NONE;
        }

        private boolean isFinished() {
            return position < 0 || position >= program.length;
        }

        private boolean inTransaction() {
            return transaction != NONE;
        }

        private void beginTransaction(int number) {
            transaction = number;
            keptNumber = NONE;
            rememberedPosition = position;
            rememberedAccumulator = accumulator;
        }

        private void endTransaction() {
            transaction = NONE;
            readSet = 0;
            writeSet = 0;
            firstReads = 0;
        }

        private void rollBack() {
            for (int line = 0; line < LINES; line++) {
                if (contains(writeSet, line)) {
                    lineStates[line] = INVALID;
                }
            }
            keptNumber = transaction;
            endTransaction();
            position = rememberedPosition;
            accumulator = rememberedAccumulator;
            aborts++;
        }

        /** Whether an access of the line by another core conflicts with the transaction of this one. */
        private boolean isHurtBy(int line, boolean writing) {
            return contains(writing ? readSet | writeSet : writeSet, line);
        }

        private boolean hasNoRoomFor(int line, int buffer) {
            return inTransaction() && !contains(writeSet, line) && Integer.bitCount(writeSet) >= buffer;
        }

        private void noteRead(int line) {
            if (!inTransaction()) {
                return;
            }
            if (!contains(writeSet | firstReads, line)) {
                firstReads |= 1 << line;
                firstValues[line] = lineValues[line];
            }
            readSet |= 1 << line;
        }

        private int fact(int what) {
            switch (what) {
                case 0:
                    return accumulator;
                case 1:
                    return position;
                case 2:
                    return program.length;
                case 3:
                    return transaction;
                case 4:
                    return commitsDone;
                default:
                    return aborts;
            }
        }
    }

    /** The logged commits, as many as there is room for. */
    private static final class Log {
        private final int room;
        private final int[] cores;
        private final int[] transactions;
        private final int[] readSets;
        private final int[] writeSets;
        private final int[] readValues;
        private final int[] writtenValues;
        private int count;

        private Log(int wanted) {
            room = wanted < 0 ? 0 : wanted;
            cores = new int[room];
            transactions = new int[room];
            readSets = new int[room];
            writeSets = new int[room];
            readValues = new int[room * LINES];
            writtenValues = new int[room * LINES];
            count = 0;
        }

        private boolean hasEntry(int entry) {
            return entry >= 0 && entry < count && entry < room;
        }

        private void addTransaction(int number, Core core) {
            addEntry(number, core.transaction, core.firstReads, core.firstValues, core.writeSet, core.lineValues);
        }

        private void addWrite(int number, int line, int[] values) {
            addEntry(number, NONE, 0, values, 1 << line, values);
        }

        private void addEntry(int number, int transaction, int reads, int[] readRow, int writes, int[] writeRow) {
            if (count < 0 || count >= room) {
                return;
            }
            cores[count] = number;
            transactions[count] = transaction;
            readSets[count] = reads;
            writeSets[count] = writes;
            for (int line = 0; line < LINES; line++) {
                // The rows are used again after an undo, so lines outside of the sets are set to 0.
                readValues[count * LINES + line] = contains(reads, line) ? readRow[line] : 0;
                writtenValues[count * LINES + line] = contains(writes, line) ? writeRow[line] : 0;
            }
            count++;
        }

        private int fact(int entry, int what) {
            switch (what) {
                case 0:
                    return cores[entry];
                case 1:
                    return transactions[entry];
                case 2:
                    return readSets[entry];
                default:
                    return writeSets[entry];
            }
        }

        private int lineValue(int entry, int line, boolean write) {
            return write ? writtenValues[entry * LINES + line] : readValues[entry * LINES + line];
        }

        /** Replays the log on the lines given; tells whether each entry finds there what it has read. */
        private boolean replaysOn(int[] lines) {
            for (int line = 0; line < LINES; line++) {
                lines[line] = 0;
            }
            for (int entry = 0; entry < count; entry++) {
                if (!readsMatch(entry, lines)) {
                    return false;
                }
                applyWrites(entry, lines);
            }
            return true;
        }

        private boolean readsMatch(int entry, int[] lines) {
            for (int line = 0; line < LINES; line++) {
                if (contains(readSets[entry], line) && lineValue(entry, line, false) != lines[line]) {
                    return false;
                }
            }
            return true;
        }

        private void applyWrites(int entry, int[] lines) {
            for (int line = 0; line < LINES; line++) {
                if (contains(writeSets[entry], line)) {
                    lines[line] = lineValue(entry, line, true);
                }
            }
        }

        private void copyFrom(Log other) {
            int kept = Math.min(other.count, room);
            System.arraycopy(other.cores, 0, cores, 0, kept);
            System.arraycopy(other.transactions, 0, transactions, 0, kept);
            System.arraycopy(other.readSets, 0, readSets, 0, kept);
            System.arraycopy(other.writeSets, 0, writeSets, 0, kept);
            System.arraycopy(other.readValues, 0, readValues, 0, kept * LINES);
            System.arraycopy(other.writtenValues, 0, writtenValues, 0, kept * LINES);
            count = kept;
        }
    }

    /** All that undo restores: cores, memory, settings, counters and log. */
    private static final class Machine {
        private final Core[] cores;
        private final int[] memoryValues;
        private final int[] counters;
        private final Log log;
        private int coreCount;
        private int policy;
        private int buffer;
        private int schedulerNumber;
        private int numbered;

        private Machine(int logRoom) {
            cores = new Core[MAX_CORES];
            for (int i = 0; i < MAX_CORES; i++) {
                cores[i] = new Core();
            }
            memoryValues = new int[LINES];
            counters = new int[COUNTERS];
            log = new Log(logRoom);
            coreCount = DEFAULT_CORES;
            policy = DEFAULT_POLICY;
            buffer = DEFAULT_BUFFER;
            schedulerNumber = DEFAULT_SEED;
            numbered = 0;
        }

        private void startAnew(int newCoreCount, int newPolicy, int newBuffer) {
            coreCount = newCoreCount;
            policy = newPolicy;
            buffer = newBuffer;
            numbered = 0;
            log.count = 0;
            for (int i = 0; i < MAX_CORES; i++) {
                cores[i].clear();
            }
            for (int line = 0; line < LINES; line++) {
                memoryValues[line] = 0;
            }
            for (int what = 0; what < COUNTERS; what++) {
                counters[what] = 0;
            }
        }

        private void copyFrom(Machine other) {
            for (int i = 0; i < MAX_CORES; i++) {
                cores[i].copyFrom(other.cores[i]);
            }
            System.arraycopy(other.memoryValues, 0, memoryValues, 0, LINES);
            System.arraycopy(other.counters, 0, counters, 0, COUNTERS);
            log.copyFrom(other.log);
            coreCount = other.coreCount;
            policy = other.policy;
            buffer = other.buffer;
            schedulerNumber = other.schedulerNumber;
            numbered = other.numbered;
        }

        private boolean hasCore(int index) {
            return index >= 0 && index < coreCount && index < MAX_CORES;
        }

        private int fact(int what) {
            switch (what) {
                case 0:
                    return coreCount;
                case 1:
                    return policy;
                case 2:
                    return buffer;
                case 3:
                    return finishedCores();
                default:
                    return numbered;
            }
        }

        private int finishedCores() {
            int finished = 0;
            for (int i = 0; i < coreCount; i++) {
                if (cores[i].isFinished()) {
                    finished++;
                }
            }
            return finished;
        }

        private int abortsSoFar() {
            return counters[CONFLICT_ABORTS] + counters[CAPACITY_ABORTS];
        }

        private int committedValue(int line) {
            for (int i = 0; i < coreCount; i++) {
                Core core = cores[i];
                if (core.lineStates[line] == MODIFIED && !contains(core.writeSet, line)) {
                    return core.lineValues[line];
                }
            }
            return memoryValues[line];
        }

        private void stepOften(int steps) {
            for (int done = 0; done < steps; done++) {
                int index = drawCore();
                if (index == NONE) {
                    return;
                }
                stepCore(index);
            }
        }

        private int stepsUntilFinished() {
            for (int done = 0; done < FINISH_LIMIT; done++) {
                int index = drawCore();
                if (index == NONE) {
                    return done;
                }
                stepCore(index);
            }
            return finishedCores() == coreCount ? FINISH_LIMIT : NONE;
        }

        /** Draws the core of the next scheduled step; NONE, and s stays, if all are finished. */
        private int drawCore() {
            int running = coreCount - finishedCores();
            if (running <= 0) {
                return NONE;
            }
            schedulerNumber = (int) ((SCHEDULER_FACTOR * schedulerNumber + SCHEDULER_SUMMAND) % SCHEDULER_MODULUS);
            int turn = schedulerNumber / SCHEDULER_DIVISOR % running;
            for (int i = 0; i < coreCount; i++) {
                if (cores[i].isFinished()) {
                    continue;
                }
                if (turn == 0) {
                    return i;
                }
                turn--;
            }
            return NONE;
        }

        /** Returns the number of aborted transactions, and 8 more if the own one is among them. */
        private int stepCore(int index) {
            Core core = cores[index];
            if (core.isFinished()) {
                return 0;
            }
            int operand = core.program.operands[core.position];
            int abortsBefore = abortsSoFar();
            int ownBefore = core.aborts;
            counters[STEPS]++;
            switch (core.program.kinds[core.position]) {
                case KIND_BEGIN:
                    beginIn(core);
                    break;
                case KIND_COMMIT:
                    commitIn(index);
                    break;
                case KIND_READ:
                    readLine(index, operand);
                    break;
                case KIND_WRITE:
                    writeLine(index, operand);
                    break;
                default:
                    core.accumulator += operand;
                    break;
            }
            int aborted = abortsSoFar() - abortsBefore;
            if (core.aborts != ownBefore) {
                return aborted + OWN_ABORTED;
            }
            core.position++;
            return aborted;
        }

        private void beginIn(Core core) {
            if (core.inTransaction()) {
                return;
            }
            if (core.keptNumber != NONE) {
                core.beginTransaction(core.keptNumber);
            } else {
                core.beginTransaction(numbered);
                numbered++;
            }
        }

        private void commitIn(int index) {
            Core core = cores[index];
            if (core.inTransaction()) {
                log.addTransaction(index, core);
                core.endTransaction();
                core.commitsDone++;
            }
        }

        private void readLine(int index, int line) {
            Core core = cores[index];
            if (!isLine(line) || !winsConflicts(index, line, false)) {
                return;
            }
            if (core.lineStates[line] == INVALID) {
                counters[READ_MISSES]++;
                writeBackElsewhere(index, line);
                core.lineStates[line] = SHARED;
                core.lineValues[line] = memoryValues[line];
            }
            core.noteRead(line);
            core.accumulator = core.lineValues[line];
        }

        private void writeLine(int index, int line) {
            Core core = cores[index];
            if (!isLine(line) || !winsConflicts(index, line, true)) {
                return;
            }
            if (core.hasNoRoomFor(line, buffer)) {
                core.rollBack();
                counters[CAPACITY_ABORTS]++;
                return;
            }
            if (core.lineStates[line] != MODIFIED) {
                takeOver(index, line);
            } else if (core.inTransaction() && !contains(core.writeSet, line)) {
                writeBack(core, line);
            }
            core.lineValues[line] = core.accumulator;
            if (core.inTransaction()) {
                core.writeSet |= 1 << line;
            } else {
                log.addWrite(index, line, core.lineValues);
            }
        }

        /**
         * Makes a line that is not modified in the cache of the core modified there, and only there. The value of the
         * memory is not fetched, as the write that follows replaces it.
         */
        private void takeOver(int index, int line) {
            Core core = cores[index];
            counters[core.lineStates[line] == INVALID ? WRITE_MISSES : UPGRADES]++;
            writeBackElsewhere(index, line);
            for (int other = 0; other < coreCount; other++) {
                if (other != index && cores[other].lineStates[line] != INVALID) {
                    cores[other].lineStates[line] = INVALID;
                    counters[INVALIDATIONS]++;
                }
            }
            core.lineStates[line] = MODIFIED;
        }

        private void writeBackElsewhere(int index, int line) {
            for (int other = 0; other < coreCount; other++) {
                if (other != index && cores[other].lineStates[line] == MODIFIED) {
                    writeBack(cores[other], line);
                    cores[other].lineStates[line] = SHARED;
                }
            }
        }

        private void writeBack(Core owner, int line) {
            memoryValues[line] = owner.lineValues[line];
            counters[WRITEBACKS]++;
        }

        /** Resolves the conflicts of an access; tells whether the requester may go on. */
        private boolean winsConflicts(int index, int line, boolean writing) {
            Core requester = cores[index];
            for (int other = 0; other < coreCount; other++) {
                Core holder = cores[other];
                if (other == index || !holder.isHurtBy(line, writing)) {
                    continue;
                }
                boolean won = winsAgainst(requester, holder);
                (won ? holder : requester).rollBack();
                counters[CONFLICT_ABORTS]++;
                if (!won) {
                    return false;
                }
            }
            return true;
        }

        private boolean winsAgainst(Core requester, Core holder) {
            if (!requester.inTransaction() || policy == REQUESTER_WINS) {
                return true;
            }
            return policy != HOLDER_WINS && requester.transaction < holder.transaction;
        }

        private int writeFromOutside(int line, int value) {
            int abortsBefore = abortsSoFar();
            for (int i = 0; i < coreCount; i++) {
                if (cores[i].isHurtBy(line, true)) {
                    cores[i].rollBack();
                    counters[CONFLICT_ABORTS]++;
                }
                cores[i].lineStates[line] = INVALID;
            }
            memoryValues[line] = value;
            log.addWrite(NONE, line, memoryValues);
            return abortsSoFar() - abortsBefore;
        }
    }
}
