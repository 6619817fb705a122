/** Boundary cases of promises 1 to 4: one method a sentence of the document, which it quotes. */
public final class SettingsEdgesTest {
    private static final Class<IllegalArgumentException> ILLEGAL = IllegalArgumentException.class;

    public static void main(String[] args) {
        newObjectHasTwoCores();
        newObjectHasPolicyZero();
        newObjectHasFourLines();
        newObjectHasNoTransactions();
        newObjectHasSeedOne();
        beginWithEachNumberOfCores();
        beginWithEachPolicy();
        beginWithEachBuffer();
        beginRefusedWithOneArgumentOff();
        beginAnew();
        beginEmptiesLogAndCounters();
        beginWithFewerCoresAndMore();
        beginLeavesSeed();
        beginReturnsEmptyLog();
        beginReturnsFullLog();
        setPolicyWithEach();
        setPolicyRefused();
        seedWithLeastAndMost();
        seedRefused();
        seedReturnsMoreThanCanBeSet();
        Check.end();
    }

    private static void newObjectHasTwoCores() {
        Check.sentence("Creates a simulator with 2 cores");
        SpeculativeCaches x = new SpeculativeCaches();
        Check.due("value(0)", x.value(0), 2);
        Check.due("state(1, 7)", x.state(1, 7), 0);
        Check.dueBounds(x, "state(2, 7)", () -> x.state(2, 7));
    }

    private static void newObjectHasPolicyZero() {
        Check.sentence("Creates a simulator with .. policy 0");
        SpeculativeCaches x = new SpeculativeCaches();
        Check.load(x, 0, "b;w0;");
        Check.load(x, 1, "b;w0;");
        Check.steps(x, 0, 2);
        x.step(1);
        Check.due("the requester wins", x.step(1), 1);
        Check.due("setPolicy(2)", x.setPolicy(2), 0);
    }

    private static void newObjectHasFourLines() {
        Check.sentence("Creates a simulator with .. a buffer of 4 lines");
        SpeculativeCaches x = new SpeculativeCaches();
        Check.load(x, 0, "b;w0;w1;w2;w3;w4;");
        Check.steps(x, 0, 4);
        Check.due("the fourth line", x.step(0), 0);
        Check.due("the fifth line", x.step(0), 9);
        Check.due("value(2)", x.value(2), 4);
    }

    private static void newObjectHasNoTransactions() {
        Check.sentence("Creates a simulator", "the first transaction gets the first number");
        for (int core = 0; core < 2; core++) {
            SpeculativeCaches x = new SpeculativeCaches();
            Check.due("number before", x.core(core, 3), -1);
            Check.load(x, core, "b;c;");
            x.step(core);
            Check.due("number", x.core(core, 3), 0);
            Check.due("numbers", x.value(4), 1);
        }
    }

    private static void newObjectHasSeedOne() {
        Check.sentence("Creates a simulator .. with s = 1.");
        SpeculativeCaches x = new SpeculativeCaches();
        Check.load(x, 0, "a1;");
        x.run(1);
        Check.due("s after a scheduled step", x.seed(0), 1103527590);
        x.undo();
        x.undo();
        Check.due("s", x.seed(0), 1);
    }

    private static void beginWithEachNumberOfCores() {
        Check.sentence("cores: 2 to 4");
        SpeculativeCaches x = new SpeculativeCaches();
        for (int cores = 2; cores <= 4; cores++) {
            x.begin(cores, 0, 4);
            Check.due("value(0)", x.value(0), cores);
            Check.due("state of the last core", x.state(cores - 1, 0), 0);
        }
        Check.dueThrowOutside(x, ILLEGAL, "begin(cores, 0, 4)", 2, 4, cores -> x.begin(cores, 0, 4));
        Check.dueIllegal(x, "begin(0, 0, 4)", () -> x.begin(0, 0, 4));
    }

    private static void beginWithEachPolicy() {
        Check.sentence("policy: 0 to 2");
        SpeculativeCaches x = new SpeculativeCaches();
        for (int policy = 0; policy <= 2; policy++) {
            x.begin(2, policy, 4);
            Check.due("value(1)", x.value(1), policy);
        }
        Check.dueThrowOutside(x, ILLEGAL, "begin(2, policy, 4)", 0, 2, policy -> x.begin(2, policy, 4));
    }

    private static void beginWithEachBuffer() {
        Check.sentence("buffer: 1 to 8");
        SpeculativeCaches x = new SpeculativeCaches();
        for (int buffer = 1; buffer <= 8; buffer++) {
            x.begin(2, 0, buffer);
            Check.due("value(2)", x.value(2), buffer);
        }
        Check.dueThrowOutside(x, ILLEGAL, "begin(2, 0, buffer)", 1, 8, buffer -> x.begin(2, 0, buffer));
    }

    private static void beginRefusedWithOneArgumentOff() {
        Check.sentence("Throws IllegalArgumentException if an argument is out of range");
        SpeculativeCaches x = Check.busy();
        Check.dueThrowOutside(x, ILLEGAL, "begin(cores, 2, 8)", 2, 4, cores -> x.begin(cores, 2, 8));
        Check.dueThrowOutside(x, ILLEGAL, "begin(4, policy, 1)", 0, 2, policy -> x.begin(4, policy, 1));
        Check.dueThrowOutside(x, ILLEGAL, "begin(4, 2, buffer)", 1, 8, buffer -> x.begin(4, 2, buffer));
        Check.due("the log stays", x.commits(), 2);
        Check.due("the transactions stay", x.core(0, 3) + x.core(1, 3), 1);
    }

    /** Four cores that have done and counted something of everything. */
    private static SpeculativeCaches worn() {
        SpeculativeCaches x = Check.with(1, 1, "w0;a1;b;c;b;w0;", "r0;a2;w1;", "r1;a3;w1;b;w3;w4;", "b;r0;");
        x.poke(7, 7);
        int[] order = {0, 0, 0, 0, 1, 1, 1, 2, 2, 2, 2, 2, 2, 0, 0, 3, 3};
        for (int core : order) {
            x.step(core);
        }
        for (int what = 0; what < 8; what++) {
            Check.due("counter(" + what + ") before", x.counter(what) > 0, true);
        }
        Check.due("commits and aborts before", x.core(0, 4) * 10 + x.core(2, 5) + x.core(3, 5), 12);
        return x;
    }

    private static void beginAnew() {
        Check.sentence("Begins anew: no programs, all lines invalid everywhere, the memory 0");
        SpeculativeCaches x = worn();
        x.begin(4, 0, 1);
        for (int core = 0; core < 4; core++) {
            int[] due = {0, 0, 0, -1, 0, 0};
            for (int what = 0; what < 6; what++) {
                Check.due("core(" + core + ", " + what + ")", x.core(core, what), due[what]);
            }
            for (int line = 0; line < 8; line++) {
                Check.due("state", x.state(core, line), 0);
                Check.due("cached", x.cached(core, line), 0);
            }
        }
        for (int line = 0; line < 8; line++) {
            Check.due("memory", x.memory(line, false), 0);
            Check.due("committed", x.memory(line, true), 0);
        }
    }

    private static void beginEmptiesLogAndCounters() {
        Check.sentence("an empty log, all counters 0, no transactions");
        SpeculativeCaches x = worn();
        x.begin(4, 0, 1);
        Check.due("commits", x.commits(), 0);
        for (int what = 0; what < 8; what++) {
            Check.due("counter(" + what + ")", x.counter(what), 0);
        }
        for (int core = 0; core < 4; core++) {
            Check.due("sets", x.set(core, false) + x.set(core, true), 0);
            Check.due("transaction", x.core(core, 3), -1);
        }
        Check.due("numbers", x.value(4), 0);
        Check.load(x, 3, "b;c;");
        x.step(3);
        Check.due("a new number, not that of an aborted one", x.core(3, 3), 0);
        Check.due("one number", x.value(4), 1);
    }

    private static void beginWithFewerCoresAndMore() {
        Check.sentence("Begins anew", "cores that are there again");
        SpeculativeCaches x = worn();
        x.begin(2, 0, 4);
        x.begin(4, 0, 4);
        Check.due("all are finished", x.value(3), 4);
        for (int core = 0; core < 4; core++) {
            Check.due("instructions", x.core(core, 2), 0);
            Check.due("commits and aborts", x.core(core, 4) + x.core(core, 5), 0);
        }
    }

    private static void beginLeavesSeed() {
        Check.sentence("s stays.");
        SpeculativeCaches x = Check.with(0, 4, "a1;");
        x.run(1);
        x.begin(4, 2, 8);
        Check.due("s of a scheduler that has run", x.seed(0), 1103527590);
        x.begin(2, 0, 1);
        Check.due("s of 0", x.seed(5), 0);
    }

    private static void beginReturnsEmptyLog() {
        Check.sentence("Returns the number of logged commits that there were.");
        SpeculativeCaches x = new SpeculativeCaches();
        Check.due("begin of a new object", x.begin(2, 0, 4), 0);
        x.poke(0, 0);
        Check.due("begin after a poke", x.begin(2, 0, 4), 1);
        Check.due("begin after begin", x.begin(2, 0, 4), 0);
    }

    private static void beginReturnsFullLog() {
        Check.sentence("Returns the number of logged commits that there were.", "400 at the most");
        SpeculativeCaches x = new SpeculativeCaches();
        for (int i = 0; i < 399; i++) {
            x.poke(i % 8, i);
        }
        Check.due("begin after 399", x.begin(2, 0, 4), 399);
        x.undo();
        x.poke(0, 0);
        Check.due("begin after 400", x.begin(2, 0, 4), 400);
        x.undo();
        x.poke(0, 1);
        Check.due("begin after 401", x.begin(2, 0, 4), 400);
    }

    private static void setPolicyWithEach() {
        Check.sentence("Sets the policy. .. Returns the previous policy.");
        SpeculativeCaches x = new SpeculativeCaches();
        int previous = 0;
        int[] policies = {2, 1, 0, 0, 1, 2, 2, 0};
        for (int policy : policies) {
            Check.due("setPolicy(" + policy + ")", x.setPolicy(policy), previous);
            Check.due("value(1)", x.value(1), policy);
            previous = policy;
        }
    }

    private static void setPolicyRefused() {
        Check.sentence("Throws IllegalArgumentException if policy is out of range", "setPolicy");
        SpeculativeCaches x = Check.busy();
        Check.dueThrowOutside(x, ILLEGAL, "setPolicy", 0, 2, policy -> x.setPolicy(policy));
        Check.due("the policy stays", x.setPolicy(0), 1);
    }

    private static void seedWithLeastAndMost() {
        Check.sentence("seed: 0 to 999999");
        SpeculativeCaches x = Check.with(0, 4, "a1;a1;a1;");
        x.seed(0);
        x.run(1);
        Check.due("the s after 0", x.seed(999999), 12345);
        x.run(1);
        Check.due("the s after 999999", x.seed(0), (int) ((1103515245L * 999999 + 12345) % 2147483648L));
    }

    private static void seedRefused() {
        Check.sentence("Throws IllegalArgumentException if seed is out of range");
        SpeculativeCaches x = Check.busy();
        Check.dueThrowOutside(x, ILLEGAL, "seed", 0, 999999, seed -> x.seed(seed));
        Check.due("s stays", x.seed(3), 1);
    }

    private static void seedReturnsMoreThanCanBeSet() {
        Check.sentence("Returns the previous s.");
        SpeculativeCaches x = Check.with(0, 4, "a1;");
        x.run(1);
        Check.due("an s above 999999", x.seed(999999), 1103527590);
        Check.due("the greatest that can be set", x.seed(0), 999999);
        Check.due("the least", x.seed(0), 0);
    }
}
