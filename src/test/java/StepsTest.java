/** Promises 9 to 11: step, run, poke, with the transactions, the conflicts and the coherence behind them. */
public final class StepsTest {
    public static void main(String[] args) {
        instructions();
        nestedBegin();
        commitWithout();
        abortRestores();
        keptNumberIsUsedOnce();
        readConflicts();
        writeConflicts();
        outsiderWins();
        policyByNumber();
        requesterAbortStopsTheStep();
        capacity();
        capacityAfterConflicts();
        readMiss();
        writeMissAndUpgrade();
        writeBackBeforeSpeculation();
        wrapAround();
        stepRefuses();
        runSchedules();
        runWithUnevenCores();
        runStopsWhenFinished();
        runRefuses();
        poke();
        pokeRefuses();
        Check.end();
    }

    private static void instructions() {
        SpeculativeCaches x = Check.with(0, 4, "a5;w1;a-7;r1;b;r2;w3;r3;c;");
        Check.due("step", x.step(0), 0);
        Check.due("add", x.core(0, 0), 5);
        Check.due("position", x.core(0, 1), 1);
        Check.steps(x, 0, 2);
        Check.due("add a negative", x.core(0, 0), -2);
        x.step(0);
        Check.due("read", x.core(0, 0), 5);
        Check.dueSets(x, 0, 0, 0);
        x.step(0);
        Check.due("a transaction", x.core(0, 3), 0);
        x.step(0);
        Check.dueSets(x, 0, 4, 0);
        x.step(0);
        Check.dueSets(x, 0, 4, 8);
        x.step(0);
        Check.dueSets(x, 0, 12, 8);
        x.step(0);
        Check.dueSets(x, 0, 0, 0);
        Check.due("no transaction", x.core(0, 3), -1);
        Check.due("one commit", x.core(0, 4), 1);
        Check.due("finished", x.core(0, 1), 9);
        Check.due("steps", x.counter(7), 9);
        x.undo();
        Check.dueSets(x, 0, 12, 8);
        Check.due("steps after undo", x.counter(7), 8);
    }

    private static void nestedBegin() {
        SpeculativeCaches x = Check.with(0, 4, "a1;b;a2;b;w0;c;");
        Check.steps(x, 0, 5);
        Check.due("one number", x.value(4), 1);
        Check.due("poke", x.poke(0, 9), 1);
        Check.due("back to the first begin", x.core(0, 1), 1);
        Check.due("accumulator of the first begin", x.core(0, 0), 1);
    }

    private static void commitWithout() {
        SpeculativeCaches x = Check.with(0, 4, "c;b;c;c;");
        x.step(0);
        Check.due("nothing is logged", x.commits(), 0);
        Check.due("nothing is counted", x.core(0, 4), 0);
        Check.due("position", x.core(0, 1), 1);
        Check.steps(x, 0, 3);
        Check.due("one is logged", x.commits(), 1);
        Check.due("one is counted", x.core(0, 4), 1);
    }

    private static void abortRestores() {
        SpeculativeCaches x = Check.with(1, 4, "b;a5;w0;w1;r2;c;", "b;r0;c;");
        Check.steps(x, 0, 5);
        Check.due("begin of another", x.step(1), 0);
        Check.due("the requester is aborted", x.step(1), 9);
        Check.due("position", x.core(1, 1), 0);
        Check.due("its transaction", x.core(1, 3), -1);
        Check.due("its aborts", x.core(1, 5), 1);
        Check.due("no miss", x.counter(0), 1);
        x.setPolicy(0);
        Check.steps(x, 1, 1);
        Check.due("the same number", x.core(1, 3), 1);
        Check.due("the holder is aborted", x.step(1), 1);
        Check.due("position of the holder", x.core(0, 1), 0);
        Check.due("accumulator of the holder", x.core(0, 0), 0);
        Check.dueSets(x, 0, 0, 0);
        Check.due("written lines are invalid", x.state(0, 0) + x.state(0, 1), 0);
        Check.due("read lines stay", x.state(0, 2), 1);
        Check.due("aborts by conflicts", x.counter(5), 2);
        Check.due("numbers", x.value(4), 2);
    }

    private static void keptNumberIsUsedOnce() {
        SpeculativeCaches x = Check.with(0, 4, "b;r0;c;b;c;");
        Check.steps(x, 0, 2);
        x.poke(0, 1);
        Check.steps(x, 0, 3);
        Check.due("one number", x.value(4), 1);
        x.step(0);
        Check.due("the next transaction", x.core(0, 3), 1);
        Check.due("two numbers", x.value(4), 2);
        Check.due("an empty read set", x.poke(0, 2), 0);
        x.step(0);
        x.again(0);
        x.step(0);
        Check.due("the third transaction", x.core(0, 3), 2);
    }

    private static void readConflicts() {
        SpeculativeCaches x = Check.with(0, 4, "b;r0;w1;", "b;r0;r1;");
        Check.steps(x, 0, 3);
        x.step(1);
        Check.due("read of a read line", x.step(1), 0);
        Check.due("read of a written line", x.step(1), 1);
        Check.dueSets(x, 0, 0, 0);
        Check.dueSets(x, 1, 3, 0);
        Check.due("the value before", x.core(1, 0), 0);
    }

    private static void writeConflicts() {
        SpeculativeCaches x = Check.with(1, 4, "b;r0;a1;w1;", "b;w2;w0;", "b;w1;");
        Check.steps(x, 0, 4);
        x.step(1);
        Check.due("write of a free line", x.step(1), 0);
        Check.due("write of a read line", x.step(1), 9);
        Check.due("its written line is invalid", x.state(1, 2), 0);
        x.step(2);
        Check.due("write of a written line", x.step(2), 9);
        Check.dueSets(x, 0, 1, 2);
        Check.due("the line stays", x.cached(0, 1), 1);
    }

    private static void outsiderWins() {
        for (int policy = 0; policy < 3; policy++) {
            SpeculativeCaches x = Check.with(policy, 4, "b;r0;w1;c;", "b;r0;c;", "r0;w0;r1;", "b;w0;c;");
            Check.steps(x, 0, 3);
            Check.steps(x, 1, 2);
            Check.due("read of read lines", x.step(2), 0);
            Check.due("write of read lines", x.step(2), 2);
            Check.due("first aborted", x.core(0, 1), 0);
            Check.due("second aborted", x.core(1, 1), 0);
            Check.due("logged", x.commits(), 1);
            Check.steps(x, 0, 3);
            Check.due("read of a written line", x.step(2), 1);
            Check.due("no commits of its own", x.core(2, 4), 0);
            Check.due("no aborts of its own", x.core(2, 5), 0);
        }
    }

    private static void policyByNumber() {
        SpeculativeCaches x = Check.with(2, 4, "b;r0;c;", "b;w0;c;");
        x.step(1);
        x.step(0);
        x.step(0);
        Check.due("the lower number wins", x.step(1), 1);
        Check.due("the greater one is aborted", x.core(0, 3), -1);
        x = Check.with(2, 4, "b;r0;c;", "b;w0;c;");
        x.step(0);
        x.step(0);
        x.step(1);
        Check.due("the greater number loses", x.step(1), 9);
        Check.due("the lower one stays", x.core(0, 3), 0);
    }

    private static void requesterAbortStopsTheStep() {
        SpeculativeCaches x = Check.with(2, 4, "b;r0;", "b;r0;", "b;a3;w0;", "b;r0;");
        x.step(1);
        x.step(2);
        x.step(0);
        x.step(3);
        x.step(0);
        x.step(1);
        x.step(3);
        x.step(2);
        Check.due("one aborted before the own one", x.step(2), 10);
        Check.due("core 0 is aborted", x.core(0, 3), -1);
        Check.due("core 1 stays", x.core(1, 3), 0);
        Check.due("core 3 is not reached", x.core(3, 3), 3);
        Check.due("no write miss", x.counter(1), 0);
        Check.due("no upgrade", x.counter(2), 0);
        Check.due("not in the cache", x.state(2, 0), 0);
        Check.due("aborts", x.counter(5), 2);
        Check.due("accumulator", x.core(2, 0), 0);
        x.setPolicy(0);
        Check.steps(x, 2, 2);
        Check.due("two aborted", x.step(2), 2);
        x.undo();
        x.setPolicy(1);
        x.step(0);
        x.step(0);
        Check.due("holder wins at once", x.step(2), 9);
        Check.due("core 1 still stays", x.core(1, 3), 0);
        x = Check.with(0, 4, "b;r0;", "b;r0;", "b;r0;", "w0;");
        for (int core = 0; core < 3; core++) {
            Check.steps(x, core, 2);
        }
        Check.due("three aborted", x.step(3), 3);
    }

    private static void capacity() {
        SpeculativeCaches x = Check.with(0, 1, "a6;w5;b;a1;w0;w0;r3;w1;c;");
        Check.steps(x, 0, 5);
        Check.due("a second write of the line", x.step(0), 0);
        x.step(0);
        Check.due("a second line", x.step(0), 9);
        Check.due("capacity aborts", x.counter(6), 1);
        Check.due("aborts by conflicts", x.counter(5), 0);
        Check.due("its aborts", x.core(0, 5), 1);
        Check.due("position", x.core(0, 1), 2);
        Check.due("accumulator", x.core(0, 0), 6);
        Check.due("the written line is invalid", x.state(0, 0), 0);
        Check.due("the line was not taken", x.state(0, 1), 0);
        Check.due("write misses", x.counter(1), 2);
        Check.due("a line from before stays", x.cached(0, 5), 6);
        x = Check.with(0, 8, "b;w0;w1;w2;w3;w4;w5;w6;w7;c;");
        Check.steps(x, 0, 9);
        Check.dueSets(x, 0, 0, 255);
        Check.due("a full set commits", x.step(0), 0);
        x = Check.with(0, 3, "w0;w1;w2;w3;b;w0;w1;w2;w3;");
        Check.steps(x, 0, 8);
        Check.dueSets(x, 0, 0, 7);
        Check.due("a fourth line of three", x.step(0), 9);
        Check.due("a modified line stays", x.state(0, 3), 2);
        x = new SpeculativeCaches();
        Check.load(x, 0, "b;w0;w1;w2;w3;w4;");
        Check.steps(x, 0, 5);
        Check.due("a fifth line of four", x.step(0), 9);
    }

    private static void capacityAfterConflicts() {
        SpeculativeCaches x = Check.with(0, 1, "b;w0;w1;c;", "b;r1;c;", "b;r1;c;");
        Check.steps(x, 0, 2);
        Check.steps(x, 1, 2);
        Check.steps(x, 2, 2);
        Check.due("two conflicts, then capacity", x.step(0), 11);
        Check.due("aborts by conflicts", x.counter(5), 2);
        Check.due("capacity aborts", x.counter(6), 1);
        x = Check.with(1, 1, "b;w0;w1;c;", "b;r1;c;");
        Check.steps(x, 0, 2);
        Check.steps(x, 1, 2);
        Check.due("a conflict instead of capacity", x.step(0), 9);
        Check.due("one abort by conflict", x.counter(5), 1);
        Check.due("no capacity abort", x.counter(6), 0);
    }

    private static void readMiss() {
        SpeculativeCaches x = Check.with(0, 4, "a8;w2;r2;", "r2;r2;", "r2;");
        Check.steps(x, 0, 2);
        Check.due("memory before", x.memory(2, false), 0);
        x.step(1);
        Check.due("memory", x.memory(2, false), 8);
        Check.due("owner", x.state(0, 2), 1);
        Check.due("reader", x.state(1, 2), 1);
        Check.due("value", x.core(1, 0), 8);
        Check.due("writebacks", x.counter(4), 1);
        Check.due("read misses", x.counter(0), 1);
        x.step(1);
        x.step(0);
        Check.due("hits are no misses", x.counter(0), 1);
        x.step(2);
        Check.due("a second miss", x.counter(0), 2);
        Check.due("no second writeback", x.counter(4), 1);
    }

    private static void writeMissAndUpgrade() {
        SpeculativeCaches x = Check.with(0, 4, "r0;a4;w0;w0;", "r0;a1;w0;", "r0;");
        x.step(0);
        x.step(1);
        x.step(2);
        x.step(0);
        x.step(0);
        Check.due("upgrades", x.counter(2), 1);
        Check.due("write misses", x.counter(1), 0);
        Check.due("invalidations", x.counter(3), 2);
        Check.due("writebacks", x.counter(4), 0);
        Check.due("invalid elsewhere", x.state(1, 0) + x.state(2, 0), 0);
        Check.due("cached elsewhere", x.cached(1, 0), 0);
        x.step(0);
        Check.due("a write of a modified line", x.counter(1) + x.counter(2), 1);
        Check.due("outside of a transaction nothing is written back", x.counter(4), 0);
        Check.steps(x, 1, 2);
        Check.due("write misses", x.counter(1), 1);
        Check.due("writebacks", x.counter(4), 1);
        Check.due("invalidations", x.counter(3), 3);
        Check.due("memory", x.memory(0, false), 4);
        Check.due("owner", x.state(1, 0), 2);
        Check.due("value", x.cached(1, 0), 1);
        Check.due("the former owner", x.state(0, 0), 0);
    }

    private static void writeBackBeforeSpeculation() {
        SpeculativeCaches x = Check.with(0, 4, "a3;w0;b;a1;w0;a1;w0;c;b;w0;");
        Check.steps(x, 0, 4);
        Check.due("memory before", x.memory(0, false), 0);
        x.step(0);
        Check.due("memory", x.memory(0, false), 3);
        Check.due("writebacks", x.counter(4), 1);
        Check.due("cached", x.cached(0, 0), 4);
        Check.steps(x, 0, 2);
        Check.due("only the first write writes back", x.counter(4), 1);
        Check.due("memory stays", x.memory(0, false), 3);
        Check.steps(x, 0, 3);
        Check.due("a new transaction writes back", x.counter(4), 2);
        Check.due("memory after the commit", x.memory(0, false), 5);
    }

    private static void wrapAround() {
        SpeculativeCaches x = Check.with(0, 4, "r0;a1;", "r0;a-1;");
        x.poke(0, Integer.MAX_VALUE);
        Check.steps(x, 0, 2);
        Check.due("wraps up", x.core(0, 0), Integer.MIN_VALUE);
        x.poke(0, Integer.MIN_VALUE);
        Check.steps(x, 1, 2);
        Check.due("wraps down", x.core(1, 0), Integer.MAX_VALUE);
    }

    private static void stepRefuses() {
        SpeculativeCaches x = Check.with(0, 4, "a1;");
        Check.dueBounds(x, "step(2)", () -> x.step(2));
        Check.dueBounds(x, "step(-1)", () -> x.step(-1));
        Check.dueState(x, "step without a program", () -> x.step(1));
        x.step(0);
        Check.dueState(x, "step of a finished core", () -> x.step(0));
    }

    private static void runSchedules() {
        String adds = "a1;".repeat(30);
        SpeculativeCaches x = Check.with(0, 4, adds, adds);
        Check.due("run(0)", x.run(0), 0);
        Check.due("no step", x.counter(7), 0);
        int[] s = {1103527590, 377401575, 662824084, 1147902781, 2035015474};
        int[] turns = {16838 % 2, 5758 % 2, 10113 % 2, 17515 % 2, 31051 % 2};
        int ones = 0;
        for (int i = 0; i < s.length; i++) {
            Check.due("run(1)", x.run(1), 0);
            ones += turns[i];
            Check.due("steps of 0", x.core(0, 1), i + 1 - ones);
            Check.due("steps of 1", x.core(1, 1), ones);
            Check.due("s", x.seed(0), s[i]);
            x.undo();
        }
        SpeculativeCaches y = Check.with(0, 4, adds, adds);
        y.run(5);
        Check.due("five steps at once", y.core(0, 1), 5 - ones);
        y.undo();
        Check.due("run is undone at once", y.core(0, 1) + y.core(1, 1), 0);
        Check.due("s is undone", y.seed(0), 1);
    }

    private static void runWithUnevenCores() {
        SpeculativeCaches x = Check.with(0, 4, "", "a1;a1;a1;a1;a1;", "", "a1;a1;a1;a1;a1;");
        Check.due("finished at first", x.run(5), 2);
        int ones = 16838 % 2 + 5758 % 2 + 10113 % 2 + 17515 % 2 + 31051 % 2;
        Check.due("the first of the two", x.core(1, 1), 5 - ones);
        Check.due("the second of the two", x.core(3, 1), ones);
        Check.due("three cores", Check.with(0, 4, "a1;", "a1;", "a1;").run(1), 1);
        SpeculativeCaches y = Check.with(0, 4, "a1;a1;", "a1;a1;", "a1;a1;");
        y.run(1);
        Check.due("16838 modulo 3", y.core(16838 % 3, 1), 1);
    }

    private static void runStopsWhenFinished() {
        SpeculativeCaches x = Check.with(0, 4, "a1;a1;", "a1;");
        Check.due("run(1000)", x.run(1000), 2);
        Check.due("three steps", x.counter(7), 3);
        Check.due("s stays when all are finished", x.seed(1), 662824084);
        Check.due("run of finished cores", x.run(10), 2);
        Check.due("s of finished cores", x.seed(1), 1);
    }

    private static void runRefuses() {
        SpeculativeCaches x = Check.with(0, 4, "a1;");
        Check.dueIllegal(x, "run(-1)", () -> x.run(-1));
        Check.dueIllegal(x, "run(1001)", () -> x.run(1001));
    }

    private static void poke() {
        SpeculativeCaches x = Check.with(1, 4, "b;r0;r1;", "b;a2;w2;r0;", "a6;w0;w4;", "r4;");
        Check.steps(x, 2, 3);
        x.step(3);
        Check.steps(x, 0, 3);
        Check.steps(x, 1, 4);
        int writebacks = x.counter(4);
        int invalidations = x.counter(3);
        Check.due("poke of a free line", x.poke(5, -5), 0);
        Check.due("memory", x.memory(5, false), -5);
        Check.due("poke of a shared line", x.poke(4, 44), 0);
        Check.due("invalid", x.state(2, 4) + x.state(3, 4), 0);
        Check.due("poke of a line in read sets", x.poke(0, 7), 2);
        Check.due("aborts by conflicts", x.counter(5), 2);
        Check.due("invalid everywhere", x.state(0, 0) + x.state(1, 0) + x.state(2, 0), 0);
        Check.due("the written line of the aborted one", x.state(1, 2), 0);
        Check.due("memory", x.memory(0, false), 7);
        Check.due("no writebacks", x.counter(4), writebacks);
        Check.due("no invalidations", x.counter(3), invalidations);
        Check.due("logged", x.commits(), 5);
        Check.steps(x, 1, 3);
        Check.due("poke of a line in a write set", x.poke(2, 1), 1);
        Check.due("aborts of the core", x.core(1, 5), 2);
        Check.due("no steps", x.counter(7), 14);
        x.undo();
        Check.due("the write set after undo", x.set(1, true), 4);
        Check.due("memory after undo", x.memory(2, false), 0);
        Check.due("commits after undo", x.commits(), 5);
    }

    private static void pokeRefuses() {
        SpeculativeCaches x = Check.with(0, 4, "b;r0;", "w7;");
        Check.steps(x, 0, 2);
        Check.dueBounds(x, "poke(8, 1)", () -> x.poke(8, 1));
        Check.dueBounds(x, "poke(-1, 1)", () -> x.poke(-1, 1));
        Check.due("poke(7, min)", x.poke(7, Integer.MIN_VALUE), 0);
        Check.due("the value", x.memory(7, false), Integer.MIN_VALUE);
    }
}
