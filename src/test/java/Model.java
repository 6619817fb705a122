import java.util.ArrayDeque;
import java.util.ArrayList;
import java.util.Deque;
import java.util.List;
import java.util.Map;
import java.util.TreeMap;
import java.util.regex.Matcher;
import java.util.regex.Pattern;

/**
 * The document once more, in another way: maps and copies instead of rows and bits. An exception that is due is
 * answered as one of the numbers below.
 */
final class Model {
    static final long ILLEGAL = Long.MIN_VALUE + 1;
    static final long STATE = Long.MIN_VALUE + 2;
    static final long BOUNDS = Long.MIN_VALUE + 3;

    private static final Pattern INSTRUCTION = Pattern.compile("(b|c|[rw][0-7]|a-?[0-9]{1,3});");

    /** One logged commit. */
    private static final class Entry {
        int core = -1;
        int transaction = -1;
        Map<Integer, Integer> reads = new TreeMap<>();
        Map<Integer, Integer> writes = new TreeMap<>();
    }

    /** A transaction that is under way: old values are kept in the memory, as the document says. */
    private static final class Transaction {
        int number;
        int position;
        int accumulator;
        int read;
        Map<Integer, Integer> first = new TreeMap<>();
        List<Integer> written = new ArrayList<>();

        Transaction copy() {
            Transaction t = new Transaction();
            t.number = number;
            t.position = position;
            t.accumulator = accumulator;
            t.read = read;
            t.first.putAll(first);
            t.written.addAll(written);
            return t;
        }

        boolean reads(int line) {
            return (read >> line & 1) == 1;
        }
    }

    private static final class Core {
        List<String> program = new ArrayList<>();
        int position;
        int accumulator;
        int commits;
        int aborts;
        Integer kept;
        Transaction transaction;
        Map<Integer, Integer> shared = new TreeMap<>();
        Map<Integer, Integer> modified = new TreeMap<>();

        Core copy() {
            Core c = new Core();
            c.program = program;
            c.position = position;
            c.accumulator = accumulator;
            c.commits = commits;
            c.aborts = aborts;
            c.kept = kept;
            c.transaction = transaction == null ? null : transaction.copy();
            c.shared.putAll(shared);
            c.modified.putAll(modified);
            return c;
        }

        boolean finished() {
            return position == program.size();
        }

        boolean has(int line) {
            return shared.containsKey(line) || modified.containsKey(line);
        }

        boolean drop(int line) {
            return shared.remove(line) != null | modified.remove(line) != null;
        }

        int value(int line) {
            return modified.getOrDefault(line, shared.getOrDefault(line, 0));
        }

        boolean wrote(int line) {
            return transaction != null && transaction.written.contains(line);
        }

        void abort() {
            for (int line : transaction.written) {
                drop(line);
            }
            position = transaction.position;
            accumulator = transaction.accumulator;
            kept = transaction.number;
            transaction = null;
            aborts++;
        }
    }

    /** All that an undo brings back. */
    private static final class World {
        List<Core> cores = new ArrayList<>();
        int policy;
        int buffer;
        long s = 1;
        int numbers;
        int[] memory = new int[8];
        int[] counters = new int[8];
        List<Entry> log = new ArrayList<>();

        World copy() {
            World w = new World();
            for (Core c : cores) {
                w.cores.add(c.copy());
            }
            w.policy = policy;
            w.buffer = buffer;
            w.s = s;
            w.numbers = numbers;
            w.memory = memory.clone();
            w.counters = counters.clone();
            w.log.addAll(log);
            return w;
        }

        int finished() {
            return (int) cores.stream().filter(Core::finished).count();
        }

        int aborts() {
            return counters[5] + counters[6];
        }

        void log(Entry e) {
            if (log.size() < 400) {
                log.add(e);
            }
        }

        boolean scheduled() {
            List<Integer> ready = new ArrayList<>();
            for (int i = 0; i < cores.size(); i++) {
                if (!cores.get(i).finished()) {
                    ready.add(i);
                }
            }
            if (ready.isEmpty()) {
                return false;
            }
            s = (1103515245L * s + 12345L) & 0x7fffffffL;
            step(ready.get((int) ((s >> 16) % ready.size())));
            return true;
        }

        int step(int index) {
            Core c = cores.get(index);
            int before = aborts();
            int own = c.aborts;
            String i = c.program.get(c.position);
            counters[7]++;
            if (i.equals("b")) {
                begin(c);
            } else if (i.equals("c")) {
                commit(index, c);
            } else if (i.startsWith("a")) {
                c.accumulator += Integer.parseInt(i.substring(1));
            } else if (conflicts(c, i.charAt(1) - '0', i.startsWith("w"))) {
                if (i.startsWith("w")) {
                    write(index, c, i.charAt(1) - '0');
                } else {
                    read(c, i.charAt(1) - '0');
                }
            }
            if (c.aborts == own) {
                c.position++;
                return aborts() - before;
            }
            return aborts() - before + 8;
        }

        private void begin(Core c) {
            if (c.transaction == null) {
                c.transaction = new Transaction();
                c.transaction.number = c.kept == null ? numbers++ : c.kept;
                c.kept = null;
                c.transaction.position = c.position;
                c.transaction.accumulator = c.accumulator;
            }
        }

        private void commit(int index, Core c) {
            if (c.transaction != null) {
                Entry e = new Entry();
                e.core = index;
                e.transaction = c.transaction.number;
                e.reads.putAll(c.transaction.first);
                for (int line : c.transaction.written) {
                    e.writes.put(line, c.value(line));
                }
                log(e);
                c.transaction = null;
                c.commits++;
            }
        }

        private boolean conflicts(Core c, int line, boolean write) {
            for (Core o : cores) {
                if (o == c || o.transaction == null || !(o.wrote(line) || write && o.transaction.reads(line))) {
                    continue;
                }
                counters[5]++;
                boolean loses = c.transaction != null
                        && (policy == 1 || policy == 2 && c.transaction.number > o.transaction.number);
                if (loses) {
                    c.abort();
                    return false;
                }
                o.abort();
            }
            return true;
        }

        private void fetch(Core c, int line) {
            for (Core o : cores) {
                if (o != c && o.modified.containsKey(line)) {
                    memory[line] = o.modified.remove(line);
                    o.shared.put(line, memory[line]);
                    counters[4]++;
                }
            }
        }

        private void read(Core c, int line) {
            if (!c.has(line)) {
                counters[0]++;
                fetch(c, line);
                c.shared.put(line, memory[line]);
            }
            c.accumulator = c.value(line);
            if (c.transaction != null) {
                if (!c.wrote(line)) {
                    c.transaction.first.putIfAbsent(line, c.accumulator);
                }
                c.transaction.read |= 1 << line;
            }
        }

        private void write(int index, Core c, int line) {
            if (c.transaction != null && !c.wrote(line) && c.transaction.written.size() == buffer) {
                counters[6]++;
                c.abort();
                return;
            }
            if (c.modified.containsKey(line)) {
                if (c.transaction != null && !c.wrote(line)) {
                    memory[line] = c.value(line);
                    counters[4]++;
                }
            } else {
                counters[c.has(line) ? 2 : 1]++;
                fetch(c, line);
                for (Core o : cores) {
                    if (o != c && o.drop(line)) {
                        counters[3]++;
                    }
                }
                c.shared.remove(line);
            }
            c.modified.put(line, c.accumulator);
            if (c.transaction == null) {
                Entry e = new Entry();
                e.core = index;
                e.writes.put(line, c.accumulator);
                log(e);
            } else if (!c.wrote(line)) {
                c.transaction.written.add(line);
            }
        }

        int committed(int line) {
            World w = copy();
            for (Core c : w.cores) {
                if (c.transaction != null) {
                    c.abort();
                }
            }
            Core reader = w.cores.get(0);
            w.read(reader, line);
            return reader.accumulator;
        }
    }

    private World now = new World();
    private final Deque<World> saved = new ArrayDeque<>();
    private String text = "";

    Model() {
        start(2, 0, 4);
    }

    private void start(int cores, int policy, int buffer) {
        long s = now.s;
        now = new World();
        now.s = s;
        now.policy = policy;
        now.buffer = buffer;
        for (int i = 0; i < cores; i++) {
            now.cores.add(new Core());
        }
    }

    private void save() {
        saved.addLast(now.copy());
        if (saved.size() > 4) {
            saved.removeFirst();
        }
    }

    private boolean core(int core) {
        return core >= 0 && core < now.cores.size();
    }

    private static boolean within(int value, int least, int most) {
        return value >= least && value <= most;
    }

    long begin(int cores, int policy, int buffer) {
        if (!within(cores, 2, 4) || !within(policy, 0, 2) || !within(buffer, 1, 8)) {
            return ILLEGAL;
        }
        save();
        int logged = now.log.size();
        start(cores, policy, buffer);
        return logged;
    }

    long setPolicy(int policy) {
        if (!within(policy, 0, 2)) {
            return ILLEGAL;
        }
        save();
        int previous = now.policy;
        now.policy = policy;
        return previous;
    }

    long seed(int seed) {
        if (!within(seed, 0, 999999)) {
            return ILLEGAL;
        }
        save();
        long previous = now.s;
        now.s = seed;
        return previous;
    }

    long append(int value) {
        if (!within(value, 0, 127)) {
            return ILLEGAL;
        }
        if (text.length() == 120) {
            return STATE;
        }
        text += (char) value;
        return text.length();
    }

    long clearText() {
        int length = text.length();
        text = "";
        return length;
    }

    private static boolean canStand(String start) {
        Matcher m = INSTRUCTION.matcher(start);
        int at = 0;
        int count = 0;
        while (m.find(at) && m.start() == at) {
            at = m.end();
            count++;
        }
        String rest = start.substring(at);
        return count + (rest.isEmpty() ? 0 : 1) <= 30
                && Pattern.matches("|b|c|[rw][0-7]?|a-?[0-9]{0,3}", rest);
    }

    private List<String> parsed() {
        List<String> program = new ArrayList<>();
        Matcher m = INSTRUCTION.matcher(text);
        int at = 0;
        while (m.find(at) && m.start() == at) {
            program.add(m.group(1));
            at = m.end();
        }
        return at == text.length() && program.size() <= 30 ? program : null;
    }

    long load(int core) {
        if (!core(core)) {
            return BOUNDS;
        }
        Core c = now.cores.get(core);
        if (c.transaction != null) {
            return STATE;
        }
        List<String> program = parsed();
        if (program == null) {
            int error = 0;
            while (error < text.length() && canStand(text.substring(0, error + 1))) {
                error++;
            }
            return -10 - error;
        }
        save();
        c.program = program;
        c.position = 0;
        c.accumulator = 0;
        c.kept = null;
        return program.size();
    }

    long again(int core) {
        if (!core(core)) {
            return BOUNDS;
        }
        Core c = now.cores.get(core);
        if (!c.finished() || c.transaction != null) {
            return STATE;
        }
        save();
        c.position = 0;
        return c.program.size();
    }

    long step(int core) {
        if (!core(core)) {
            return BOUNDS;
        }
        if (now.cores.get(core).finished()) {
            return STATE;
        }
        save();
        return now.step(core);
    }

    long run(int steps) {
        if (!within(steps, 0, 1000)) {
            return ILLEGAL;
        }
        save();
        for (int i = 0; i < steps; i++) {
            now.scheduled();
        }
        return now.finished();
    }

    long poke(int line, int value) {
        if (!within(line, 0, 7)) {
            return BOUNDS;
        }
        save();
        int aborted = 0;
        for (Core c : now.cores) {
            if (c.transaction != null && (c.wrote(line) || c.transaction.reads(line))) {
                c.abort();
                now.counters[5]++;
                aborted++;
            }
            c.drop(line);
        }
        now.memory[line] = value;
        Entry e = new Entry();
        e.writes.put(line, value);
        now.log(e);
        return aborted;
    }

    long state(int core, int line) {
        if (!core(core) || !within(line, 0, 7)) {
            return BOUNDS;
        }
        Core c = now.cores.get(core);
        return c.modified.containsKey(line) ? 2 : c.shared.containsKey(line) ? 1 : 0;
    }

    long cached(int core, int line) {
        return !core(core) || !within(line, 0, 7) ? BOUNDS : now.cores.get(core).value(line);
    }

    long memory(int line, boolean committed) {
        return !within(line, 0, 7) ? BOUNDS : committed ? now.committed(line) : now.memory[line];
    }

    long set(int core, boolean write) {
        if (!core(core)) {
            return BOUNDS;
        }
        Transaction t = now.cores.get(core).transaction;
        if (t == null) {
            return 0;
        }
        int lines = 0;
        for (int line : t.written) {
            lines |= 1 << line;
        }
        return write ? lines : t.read;
    }

    long core(int core, int what) {
        if (!core(core)) {
            return BOUNDS;
        }
        if (!within(what, 0, 5)) {
            return ILLEGAL;
        }
        Core c = now.cores.get(core);
        int number = c.transaction == null ? -1 : c.transaction.number;
        return new int[] {c.accumulator, c.position, c.program.size(), number, c.commits, c.aborts}[what];
    }

    long value(int what) {
        if (!within(what, 0, 4)) {
            return ILLEGAL;
        }
        return new int[] {now.cores.size(), now.policy, now.buffer, now.finished(), now.numbers}[what];
    }

    long counter(int what) {
        return within(what, 0, 7) ? now.counters[what] : ILLEGAL;
    }

    long commits() {
        return now.log.size();
    }

    private static long lines(Map<Integer, Integer> values) {
        long lines = 0;
        for (int line : values.keySet()) {
            lines |= 1 << line;
        }
        return lines;
    }

    long commit(int commit, int what) {
        if (!within(commit, 0, now.log.size() - 1)) {
            return BOUNDS;
        }
        if (!within(what, 0, 3)) {
            return ILLEGAL;
        }
        Entry e = now.log.get(commit);
        return new long[] {e.core, e.transaction, lines(e.reads), lines(e.writes)}[what];
    }

    long commitValue(int commit, int line, boolean write) {
        if (!within(commit, 0, now.log.size() - 1) || !within(line, 0, 7)) {
            return BOUNDS;
        }
        Entry e = now.log.get(commit);
        return (write ? e.writes : e.reads).getOrDefault(line, 0);
    }

    long serializable() {
        Map<Integer, Integer> lines = new TreeMap<>();
        for (Entry e : now.log) {
            for (Map.Entry<Integer, Integer> read : e.reads.entrySet()) {
                if (!read.getValue().equals(lines.getOrDefault(read.getKey(), 0))) {
                    return 0;
                }
            }
            lines.putAll(e.writes);
        }
        return 1;
    }

    long finish(int policy) {
        if (!within(policy, 0, 2)) {
            return ILLEGAL;
        }
        World w = now.copy();
        w.policy = policy;
        int steps = 0;
        while (w.finished() < w.cores.size()) {
            if (steps == 2000) {
                return -1;
            }
            w.scheduled();
            steps++;
        }
        return steps;
    }

    long abortsWith(int policy, int steps) {
        if (!within(policy, 0, 2) || !within(steps, 0, 1000)) {
            return ILLEGAL;
        }
        World w = now.copy();
        w.policy = policy;
        for (int i = 0; i < steps; i++) {
            w.scheduled();
        }
        return w.aborts() - now.aborts();
    }

    long bestPolicy() {
        long best = -1;
        for (int policy = 2; policy >= 0; policy--) {
            long steps = finish(policy);
            if (steps >= 0 && (best < 0 || steps <= finish((int) best))) {
                best = policy;
            }
        }
        return best;
    }

    long undo() {
        if (saved.isEmpty()) {
            return STATE;
        }
        now = saved.removeLast();
        return saved.size();
    }

    long digest() {
        List<Long> values = new ArrayList<>();
        values.add((long) text.length());
        for (int what = 0; what < 5; what++) {
            values.add(value(what));
        }
        values.add(now.s);
        for (int core = 0; core < now.cores.size(); core++) {
            for (int what = 0; what < 6; what++) {
                values.add(core(core, what));
            }
            values.add(set(core, false));
            values.add(set(core, true));
            for (int line = 0; line < 8; line++) {
                values.add(state(core, line));
                values.add(cached(core, line));
            }
        }
        for (int kind = 0; kind < 2; kind++) {
            for (int line = 0; line < 8; line++) {
                values.add(memory(line, kind == 1));
            }
        }
        for (int what = 0; what < 8; what++) {
            values.add(counter(what));
        }
        values.add(commits());
        values.add((long) saved.size());
        long h = 3011;
        for (long v : values) {
            h = 31 * h + v;
        }
        return h;
    }
}
