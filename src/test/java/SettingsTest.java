/** Promises 1 to 4: a new object, begin, setPolicy, seed. */
public final class SettingsTest {
    public static void main(String[] args) {
        newObject();
        firstTransaction();
        beginAnew();
        beginGivesNumbersUp();
        beginKeepsTextAndSeed();
        beginRefuses();
        setPolicy();
        seed();
        Check.end();
    }

    private static void newObject() {
        SpeculativeCaches x = new SpeculativeCaches();
        Check.due("NONE", SpeculativeCaches.NONE, -1);
        long[] facts = {2, 0, 4, 2, 0};
        for (int what = 0; what < 5; what++) {
            Check.due("new value(" + what + ")", x.value(what), facts[what]);
        }
        long[] coreFacts = {0, 0, 0, -1, 0, 0};
        for (int core = 0; core < 2; core++) {
            for (int what = 0; what < 6; what++) {
                Check.due("new core(" + core + ", " + what + ")", x.core(core, what), coreFacts[what]);
            }
            for (int line = 0; line < 8; line++) {
                Check.due("new state", x.state(core, line), 0);
                Check.due("new cached", x.cached(core, line), 0);
            }
            Check.due("new read set", x.set(core, false), 0);
            Check.due("new write set", x.set(core, true), 0);
        }
        for (int line = 0; line < 8; line++) {
            Check.due("new memory", x.memory(line, false), 0);
            Check.due("new committed", x.memory(line, true), 0);
        }
        for (int what = 0; what < 8; what++) {
            Check.due("new counter(" + what + ")", x.counter(what), 0);
        }
        Check.due("new commits", x.commits(), 0);
        Check.due("new serializable", x.serializable(), true);
        Check.dueState(x, "undo of a new object", () -> x.undo());
        Check.dueState(x, "step of a new object", () -> x.step(0));
        Check.due("new text", x.clearText(), 0);
        Check.due("new s", x.seed(7), 1);
    }

    private static void firstTransaction() {
        SpeculativeCaches x = new SpeculativeCaches();
        Check.load(x, 1, "b;c;");
        x.step(1);
        Check.due("the first number", x.core(1, 3), 0);
        Check.due("one number", x.value(4), 1);
    }

    private static void beginGivesNumbersUp() {
        SpeculativeCaches x = Check.with(0, 4, "b;r0;c;", "b;r0;c;");
        Check.steps(x, 1, 2);
        Check.steps(x, 0, 2);
        Check.due("both are aborted", x.poke(0, 1), 2);
        x.begin(2, 0, 4);
        Check.load(x, 0, "b;c;");
        x.step(0);
        Check.due("the first number after begin", x.core(0, 3), 0);
        Check.due("one number after begin", x.value(4), 1);
    }

    private static void beginAnew() {
        SpeculativeCaches x = Check.with(1, 2, "a3;w0;b;r1;w1;c;b;w2;r0;", "b;r0;w3;w4;w5;");
        Check.steps(x, 0, 9);
        Check.steps(x, 1, 5);
        x.poke(7, 70);
        long before = x.digest();
        Check.due("commits before begin", x.commits(), 3);
        Check.due("begin(4, 2, 8)", x.begin(4, 2, 8), 3);
        long[] coreFacts = {0, 0, 0, -1, 0, 0};
        for (int core = 0; core < 4; core++) {
            for (int what = 0; what < 6; what++) {
                Check.due("core after begin", x.core(core, what), coreFacts[what]);
            }
            Check.due("read set after begin", x.set(core, false), 0);
            Check.due("write set after begin", x.set(core, true), 0);
            for (int line = 0; line < 8; line++) {
                Check.due("state after begin", x.state(core, line), 0);
                Check.due("cached after begin", x.cached(core, line), 0);
            }
        }
        for (int line = 0; line < 8; line++) {
            Check.due("memory after begin", x.memory(line, false), 0);
            Check.due("committed after begin", x.memory(line, true), 0);
        }
        for (int what = 0; what < 8; what++) {
            Check.due("counter after begin", x.counter(what), 0);
        }
        Check.due("cores after begin", x.value(0), 4);
        Check.due("policy after begin", x.value(1), 2);
        Check.due("buffer after begin", x.value(2), 8);
        Check.due("finished after begin", x.value(3), 4);
        Check.due("numbers after begin", x.value(4), 0);
        Check.due("commits after begin", x.commits(), 0);
        x.undo();
        Check.due("commits after undo of begin", x.commits(), 3);
        Check.due("digest after undo of begin, one saved state less", x.digest(), before - 1);
        Check.due("a commit after undo of begin", x.commitValue(2, 7, true), 70);
        Check.due("begin again", x.begin(2, 0, 1), 3);
        Check.due("begin of an empty log", x.begin(2, 0, 1), 0);
    }

    private static void beginKeepsTextAndSeed() {
        SpeculativeCaches x = new SpeculativeCaches();
        x.seed(77);
        Check.type(x, "b;c;");
        x.begin(3, 0, 4);
        Check.due("load after begin", x.load(2), 2);
        Check.due("s after begin", x.seed(1), 77);
        Check.due("text after begin", x.clearText(), 4);
    }

    private static void beginRefuses() {
        SpeculativeCaches x = Check.with(1, 3, "b;w0;", "r1;");
        x.step(0);
        x.step(0);
        Check.dueIllegal(x, "begin(1, 0, 4)", () -> x.begin(1, 0, 4));
        Check.dueIllegal(x, "begin(5, 0, 4)", () -> x.begin(5, 0, 4));
        Check.dueIllegal(x, "begin(2, -1, 4)", () -> x.begin(2, -1, 4));
        Check.dueIllegal(x, "begin(2, 3, 4)", () -> x.begin(2, 3, 4));
        Check.dueIllegal(x, "begin(2, 0, 0)", () -> x.begin(2, 0, 0));
        Check.dueIllegal(x, "begin(2, 0, 9)", () -> x.begin(2, 0, 9));
        Check.dueIllegal(x, "begin(min, min, min)",
                () -> x.begin(Integer.MIN_VALUE, Integer.MIN_VALUE, Integer.MIN_VALUE));
        Check.dueIllegal(x, "begin(max, max, max)",
                () -> x.begin(Integer.MAX_VALUE, Integer.MAX_VALUE, Integer.MAX_VALUE));
        x.begin(2, 0, 1);
        Check.due("the least buffer", x.value(2), 1);
        x.begin(4, 2, 8);
        Check.due("the largest buffer", x.value(2), 8);
    }

    private static void setPolicy() {
        SpeculativeCaches x = new SpeculativeCaches();
        Check.due("setPolicy(2)", x.setPolicy(2), 0);
        Check.due("policy", x.value(1), 2);
        Check.due("setPolicy(2) again", x.setPolicy(2), 2);
        Check.due("setPolicy(1)", x.setPolicy(1), 2);
        Check.dueIllegal(x, "setPolicy(-1)", () -> x.setPolicy(-1));
        Check.dueIllegal(x, "setPolicy(3)", () -> x.setPolicy(3));
        Check.due("undo of setPolicy", x.undo(), 2);
        Check.due("policy after undo", x.value(1), 2);
        Check.due("undo of a setPolicy that changed nothing", x.undo(), 1);
        Check.due("policy after that", x.value(1), 2);
        Check.due("undo of the first", x.undo(), 0);
        Check.due("the first policy", x.value(1), 0);
    }

    private static void seed() {
        SpeculativeCaches x = new SpeculativeCaches();
        Check.due("seed(0)", x.seed(0), 1);
        Check.due("seed(999999)", x.seed(999999), 0);
        Check.dueIllegal(x, "seed(-1)", () -> x.seed(-1));
        Check.dueIllegal(x, "seed(1000000)", () -> x.seed(1000000));
        Check.due("seed(5)", x.seed(5), 999999);
        Check.due("undo of seed", x.undo(), 2);
        Check.due("seed after undo", x.seed(3), 999999);
    }
}
