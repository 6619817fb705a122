/** Promises 12 to 18: state, cached, memory, set, core, value, counter. */
public final class ViewTest {
    public static void main(String[] args) {
        stateAndCached();
        memory();
        set();
        core();
        value();
        counter();
        refusals();
        Check.end();
    }

    private static void stateAndCached() {
        SpeculativeCaches x = Check.with(0, 4, "a9;w7;r1;", "", "r7;w7;");
        x.poke(1, 11);
        Check.steps(x, 0, 3);
        Check.due("modified", x.state(0, 7), 2);
        Check.due("its value", x.cached(0, 7), 9);
        Check.due("shared", x.state(0, 1), 1);
        Check.due("its value", x.cached(0, 1), 11);
        Check.due("invalid", x.state(0, 0), 0);
        x.step(2);
        Check.due("shared with the reader", x.state(0, 7) * 10 + x.state(2, 7), 11);
        Check.due("the value of the reader", x.cached(2, 7), 9);
        x.step(2);
        Check.due("invalid by the writer", x.state(0, 7) * 10 + x.state(2, 7), 2);
        Check.due("no value where it is invalid", x.cached(0, 7), 0);
        x.poke(7, 3);
        Check.due("no value after poke", x.cached(2, 7), 0);
        Check.due("another core", x.state(1, 7), 0);
    }

    private static void memory() {
        SpeculativeCaches x = Check.with(0, 4, "a3;w0;b;a1;w0;a1;w1;r2;c;", "a5;w2;b;r0;");
        x.poke(3, 33);
        Check.due("poked", x.memory(3, false) + x.memory(3, true), 66);
        Check.steps(x, 0, 2);
        Check.due("memory of a modified line", x.memory(0, false), 0);
        Check.due("committed value of it", x.memory(0, true), 3);
        Check.steps(x, 0, 3);
        Check.due("memory of a written line", x.memory(0, false), 3);
        Check.due("committed value of it", x.memory(0, true), 3);
        Check.steps(x, 0, 2);
        Check.due("committed value of another", x.memory(1, true), 0);
        Check.steps(x, 1, 2);
        Check.due("a line of a core without a transaction", x.memory(2, true), 5);
        x.step(1);
        Check.due("with a transaction that did not write it", x.memory(2, true), 5);
        Check.due("its memory", x.memory(2, false), 0);
        x.step(0);
        Check.due("written back", x.memory(2, false), 5);
        x.step(0);
        Check.due("after the commit", x.memory(0, true), 4);
        Check.due("memory after the commit", x.memory(0, false), 3);
        Check.due("the other after the commit", x.memory(1, true), 5);
    }

    private static void set() {
        SpeculativeCaches x = Check.with(0, 4, "w0;r1;b;r7;w7;w2;c;", "b;r3;");
        Check.steps(x, 0, 2);
        Check.due("no transaction reads nothing", x.set(0, false), 0);
        Check.due("no transaction writes nothing", x.set(0, true), 0);
        Check.steps(x, 0, 4);
        Check.steps(x, 1, 2);
        Check.due("read set", x.set(0, false), 128);
        Check.due("write set", x.set(0, true), 132);
        Check.due("read set of 1", x.set(1, false), 8);
        Check.due("write set of 1", x.set(1, true), 0);
        x.step(0);
        Check.due("read set after commit", x.set(0, false), 0);
        Check.due("write set after commit", x.set(0, true), 0);
        x.poke(3, 0);
        Check.due("read set after abort", x.set(1, false), 0);
    }

    private static void core() {
        SpeculativeCaches x = Check.with(0, 1, "b;c;b;a7;w0;w1;c;", "a2;");
        Check.steps(x, 0, 5);
        long[] due = {7, 5, 7, 1, 1, 0};
        for (int what = 0; what < 6; what++) {
            Check.due("core(0, " + what + ")", x.core(0, what), due[what]);
        }
        x.step(0);
        long[] aborted = {0, 2, 7, -1, 1, 1};
        for (int what = 0; what < 6; what++) {
            Check.due("aborted core(0, " + what + ")", x.core(0, what), aborted[what]);
        }
        x.step(0);
        Check.due("its number again", x.core(0, 3), 1);
        Check.due("instructions of 1", x.core(1, 2), 1);
    }

    private static void value() {
        SpeculativeCaches x = Check.with(2, 7, "b;c;b;c;", "a1;", "b;r0;");
        Check.due("cores", x.value(0), 3);
        Check.due("policy", x.value(1), 2);
        Check.due("buffer", x.value(2), 7);
        Check.due("finished", x.value(3), 0);
        Check.due("numbers", x.value(4), 0);
        Check.steps(x, 2, 2);
        Check.due("finished with a transaction", x.value(3), 1);
        x.poke(0, 1);
        Check.due("aborted", x.value(3), 0);
        x.step(2);
        Check.due("a kept number is no new one", x.value(4), 1);
        Check.steps(x, 0, 3);
        Check.due("three numbers", x.value(4), 3);
        Check.due("the latest", x.core(0, 3), 2);
    }

    private static void counter() {
        SpeculativeCaches x = Check.with(0, 1, "r0;a1;w0;b;w0;w1;", "w0;b;w2;r0;", "r0;");
        x.step(0);
        x.step(2);
        x.step(1);
        Check.steps(x, 0, 5);
        long[] due = {2, 2, 0, 3, 2, 0, 1, 8};
        for (int what = 0; what < 8; what++) {
            Check.due("counter(" + what + ")", x.counter(what), due[what]);
        }
        Check.steps(x, 0, 2);
        x.step(1);
        x.step(1);
        Check.due("a conflict", x.step(1), 1);
        Check.due("aborts by conflicts", x.counter(5), 1);
        Check.due("capacity aborts", x.counter(6), 1);
        x.poke(2, 2);
        Check.due("poke counts, too", x.counter(5), 2);
        Check.due("steps", x.counter(7), 13);
    }

    private static void refusals() {
        SpeculativeCaches x = Check.with(0, 4, "b;r0;", "a1;", "w1;");
        Check.steps(x, 0, 2);
        int[] none = {-1, 3, 4, Integer.MAX_VALUE, Integer.MIN_VALUE};
        for (int core : none) {
            Check.dueBounds(x, "state(" + core + ", 0)", () -> x.state(core, 0));
            Check.dueBounds(x, "cached(" + core + ", 0)", () -> x.cached(core, 0));
            Check.dueBounds(x, "set(" + core + ")", () -> x.set(core, true));
            Check.dueBounds(x, "core(" + core + ", 0)", () -> x.core(core, 0));
            Check.dueBounds(x, "core(" + core + ", 6)", () -> x.core(core, 6));
        }
        int[] noLine = {-1, 8, Integer.MAX_VALUE, Integer.MIN_VALUE};
        for (int line : noLine) {
            Check.dueBounds(x, "state(0, " + line + ")", () -> x.state(0, line));
            Check.dueBounds(x, "cached(0, " + line + ")", () -> x.cached(0, line));
            Check.dueBounds(x, "memory(" + line + ")", () -> x.memory(line, false));
            Check.dueBounds(x, "committed(" + line + ")", () -> x.memory(line, true));
        }
        int[] what = {-1, 8, Integer.MAX_VALUE, Integer.MIN_VALUE};
        for (int w : what) {
            Check.dueIllegal(x, "core(0, " + w + ")", () -> x.core(0, w));
            Check.dueIllegal(x, "value(" + w + ")", () -> x.value(w));
            Check.dueIllegal(x, "counter(" + w + ")", () -> x.counter(w));
        }
        Check.dueIllegal(x, "core(0, 6)", () -> x.core(0, 6));
        Check.dueIllegal(x, "value(5)", () -> x.value(5));
    }
}
