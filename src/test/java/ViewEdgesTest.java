/** Boundary cases of promises 12 to 18: one method a sentence of the document, which it quotes. */
public final class ViewEdgesTest {
    private static final Class<IndexOutOfBoundsException> BOUNDS = IndexOutOfBoundsException.class;
    private static final Class<IllegalArgumentException> ILLEGAL = IllegalArgumentException.class;

    public static void main(String[] args) {
        statesZeroToTwo();
        noSuchCoreOrLine();
        cachedOfAnInvalidLine();
        committedOfAModifiedLine();
        committedOfAWriteSet();
        committedAfterAnAbort();
        committedChangesNothing();
        memoryOfNoLine();
        setsOfAllLines();
        setsWithoutTransaction();
        setOfNoCore();
        accumulatorAndPosition();
        transactionOfACore();
        commitsOfACore();
        abortsOfACore();
        coreOfNoCore();
        coreOfNothing();
        finishedCores();
        numbersGiven();
        valueRefused();
        countersOfAborts();
        counterOfSteps();
        counterRefused();
        Check.end();
    }

    private static void statesZeroToTwo() {
        Check.sentence("Returns 0 to 2.");
        SpeculativeCaches x = Check.with(0, 4, "r7;w7;", "", "", "r7;");
        Check.due("invalid", x.state(0, 7), 0);
        x.step(0);
        Check.due("shared", x.state(0, 7), 1);
        x.step(0);
        Check.due("modified", x.state(0, 7), 2);
        x.step(3);
        Check.due("shared by two", x.state(0, 7) * 10 + x.state(3, 7), 11);
        x.poke(7, 0);
        Check.due("invalid again", x.state(0, 7) + x.state(3, 7), 0);
    }

    private static void noSuchCoreOrLine() {
        Check.sentence("Throws IndexOutOfBoundsException if there is no such core or line");
        for (int cores = 2; cores <= 4; cores++) {
            SpeculativeCaches x = new SpeculativeCaches();
            x.begin(4, 0, 4);
            x.begin(cores, 0, 4);
            int last = cores - 1;
            Check.dueThrowOutside(x, BOUNDS, "state(core, 0)", 0, last, core -> x.state(core, 0));
            Check.dueThrowOutside(x, BOUNDS, "cached(core, 7)", 0, last, core -> x.cached(core, 7));
            Check.dueThrowOutside(x, BOUNDS, "state(last, line)", 0, 7, line -> x.state(last, line));
            Check.dueThrowOutside(x, BOUNDS, "cached(0, line)", 0, 7, line -> x.cached(0, line));
            Check.dueBounds(x, "state of neither", () -> x.state(-1, 8));
            Check.dueBounds(x, "cached of neither", () -> x.cached(4, -1));
            Check.due("the last line of the last core", x.state(last, 7) + x.cached(last, 7), 0);
        }
    }

    private static void cachedOfAnInvalidLine() {
        Check.sentence("Returns the value; 0 if the line is invalid.");
        SpeculativeCaches x = Check.with(0, 1, "a5;w0;w1;r2;b;w3;w4;", "a6;w0;r1;");
        x.poke(2, 7);
        Check.due("never used", x.cached(0, 0), 0);
        Check.steps(x, 0, 6);
        int[] due = {5, 5, 7, 7};
        for (int line = 0; line < 4; line++) {
            Check.due("the value of line " + line, x.cached(0, line), due[line]);
        }
        Check.steps(x, 1, 3);
        Check.due("after a write of another", x.cached(0, 0), 0);
        Check.due("after a read of another", x.cached(0, 1), 5);
        x.poke(2, 9);
        Check.due("after a poke", x.cached(0, 2), 0);
        x.step(0);
        Check.due("after an abort", x.cached(0, 3), 0);
        x.undo();
        Check.due("after an undo", x.cached(0, 3), 7);
    }

    private static void committedOfAModifiedLine() {
        Check.sentence("true for the value that a read without a transaction would give after all transactions were "
                + "aborted", "a line that is modified, but in no write set");
        SpeculativeCaches x = Check.with(0, 4, "a5;w0;w7;b;r0;w1;", "", "a6;w2;");
        x.poke(0, 3);
        Check.steps(x, 0, 6);
        Check.steps(x, 2, 2);
        Check.due("memory", x.memory(0, false), 3);
        Check.due("of a line in the read set", x.memory(0, true), 5);
        Check.due("of a line in no set", x.memory(7, true), 5);
        Check.due("of another core", x.memory(2, true), 6);
        Check.due("its memory", x.memory(2, false), 0);
    }

    private static void committedOfAWriteSet() {
        Check.sentence("after all transactions were aborted", "a line in a write set");
        SpeculativeCaches x = Check.with(0, 4, "a5;w0;b;a1;w0;w1;a1;w1;c;", "", "", "b;a9;w2;");
        x.poke(1, 4);
        Check.steps(x, 0, 8);
        Check.steps(x, 3, 3);
        Check.due("modified before", x.memory(0, true), 5);
        Check.due("invalid before", x.memory(1, true), 4);
        Check.due("of the last core", x.memory(2, true), 0);
        x.step(0);
        Check.due("after the commit", x.memory(0, true) * 10 + x.memory(1, true), 67);
        Check.due("the memory is behind", x.memory(0, false) * 10 + x.memory(1, false), 54);
    }

    /** Lines 0 to 3: modified before and written, modified before and read, invalid before and written, only read. */
    private static void committedAfterAnAbort() {
        Check.sentence("the value that a read without a transaction would give after all transactions were aborted");
        SpeculativeCaches x = Check.with(0, 4, "a5;w0;a1;w1;b;a1;w0;w2;r1;r3;", "r0;r1;r2;r3;");
        x.poke(2, 7);
        Check.steps(x, 0, 10);
        int[] due = {5, 6, 7, 0};
        for (int line = 0; line < 4; line++) {
            Check.due("told of line " + line, x.memory(line, true), due[line]);
        }
        x.poke(3, 0);
        Check.due("all are aborted", x.core(0, 3), -1);
        for (int line = 0; line < 4; line++) {
            Check.due("told of line " + line + " after the abort", x.memory(line, true), due[line]);
            x.step(1);
            Check.due("read of line " + line, x.core(1, 0), due[line]);
        }
    }

    private static void committedChangesNothing() {
        Check.sentence("true for the value that a read .. would give", "it is not read");
        SpeculativeCaches x = Check.busy();
        long before = x.digest();
        for (int line = 0; line < 8; line++) {
            x.memory(line, true);
        }
        Check.due("digest", x.digest(), before);
        Check.due("read misses", x.counter(0), 2);
    }

    private static void memoryOfNoLine() {
        Check.sentence("Throws IndexOutOfBoundsException if there is no such line", "memory");
        SpeculativeCaches x = Check.busy();
        Check.dueThrowOutside(x, BOUNDS, "memory(line, false)", 0, 7, line -> x.memory(line, false));
        Check.dueThrowOutside(x, BOUNDS, "memory(line, true)", 0, 7, line -> x.memory(line, true));
        x.poke(7, 3);
        Check.due("the last line", x.memory(7, false) * 10 + x.memory(7, true), 33);
    }

    private static void setsOfAllLines() {
        Check.sentence("Returns a bit set of lines");
        SpeculativeCaches x = Check.with(0, 8, "", "b;r0;r7;w7;r1;r2;r3;r4;r5;r6;w0;w1;w2;w3;w4;w5;w6;");
        int[] reads = {0, 1, 129, 129, 131, 135, 143, 159, 191, 255, 255, 255, 255, 255, 255, 255, 255};
        int[] writes = {0, 0, 0, 128, 128, 128, 128, 128, 128, 128, 129, 131, 135, 143, 159, 191, 255};
        for (int i = 0; i < reads.length; i++) {
            x.step(1);
            Check.due("read set", x.set(1, false), reads[i]);
            Check.due("write set", x.set(1, true), writes[i]);
        }
        Check.due("the other core", x.set(0, false) + x.set(0, true), 0);
    }

    private static void setsWithoutTransaction() {
        Check.sentence("(0 without a transaction)");
        SpeculativeCaches x = Check.with(0, 4, "r0;w1;b;r2;w3;c;r4;b;w5;");
        int[] reads = {0, 0, 0, 4, 4, 0, 0, 0, 0};
        int[] writes = {0, 0, 0, 0, 8, 0, 0, 0, 32};
        for (int i = 0; i < reads.length; i++) {
            x.step(0);
            Check.due("read set", x.set(0, false), reads[i]);
            Check.due("write set", x.set(0, true), writes[i]);
        }
        x.poke(5, 0);
        Check.due("after an abort", x.set(0, false) + x.set(0, true), 0);
    }

    private static void setOfNoCore() {
        Check.sentence("Throws IndexOutOfBoundsException if there is no such core", "set");
        for (int cores = 2; cores <= 4; cores++) {
            SpeculativeCaches x = new SpeculativeCaches();
            x.begin(cores, 0, 4);
            Check.dueThrowOutside(x, BOUNDS, "set(core, false)", 0, cores - 1, core -> x.set(core, false));
            Check.dueThrowOutside(x, BOUNDS, "set(core, true)", 0, cores - 1, core -> x.set(core, true));
        }
    }

    private static void accumulatorAndPosition() {
        Check.sentence("0 its accumulator, 1 its position, 2 the number of its instructions");
        SpeculativeCaches x = Check.with(0, 4, "a-9;".repeat(30));
        for (int i = 0; i <= 30; i++) {
            Check.due("accumulator", x.core(0, 0), -9 * i);
            Check.due("position", x.core(0, 1), i);
            Check.due("instructions", x.core(0, 2), 30);
            if (i < 30) {
                x.step(0);
            }
        }
    }

    private static void transactionOfACore() {
        Check.sentence("3 the number of its transaction (NONE without one)");
        SpeculativeCaches x = Check.with(0, 4, "b;b;r0;c;c;b;");
        long[] due = {-1, 0, 0, 0, -1, -1, 1};
        for (int i = 0; i < due.length; i++) {
            Check.due("after " + i + " steps", x.core(0, 3), due[i]);
            if (i < 6) {
                x.step(0);
            }
        }
        SpeculativeCaches y = Check.with(0, 4, "b;r0;c;");
        Check.steps(y, 0, 2);
        y.poke(0, 0);
        Check.due("after an abort", y.core(0, 3), -1);
    }

    private static void commitsOfACore() {
        Check.sentence("4 how many commits it has done");
        SpeculativeCaches x = Check.with(0, 4, "c;b;c;c;w0;b;w1;c;r0;", "b;c;");
        long[] due = {0, 0, 1, 1, 1, 1, 1, 2, 2};
        for (int i = 0; i < due.length; i++) {
            x.step(0);
            Check.due("after " + (i + 1) + " steps", x.core(0, 4), due[i]);
        }
        Check.due("the other core", x.core(1, 4), 0);
        Check.load(x, 0, "");
        Check.due("load leaves it", x.core(0, 4), 2);
    }

    private static void abortsOfACore() {
        Check.sentence("5 how many of its transactions were aborted");
        SpeculativeCaches x = Check.with(0, 1, "b;w0;w1;", "b;r0;", "r0;w0;");
        Check.steps(x, 0, 3);
        Check.due("by the capacity", x.core(0, 5), 1);
        Check.steps(x, 0, 2);
        x.step(2);
        Check.due("by a read of another", x.core(0, 5), 2);
        Check.steps(x, 1, 2);
        x.step(2);
        Check.due("by a write of another", x.core(1, 5), 1);
        Check.steps(x, 0, 2);
        x.poke(0, 0);
        Check.due("by a poke", x.core(0, 5), 3);
        Check.due("the one that has no transaction", x.core(2, 5), 0);
    }

    private static void coreOfNoCore() {
        Check.sentence("Throws IndexOutOfBoundsException if there is no such core", "core");
        SpeculativeCaches x = Check.busy();
        for (int w = 0; w < 6; w++) {
            int what = w;
            Check.dueThrowOutside(x, BOUNDS, "core(core, " + what + ")", 0, 2, core -> x.core(core, what));
        }
        Check.dueThrowOutside(x, BOUNDS, "core(3, what)", 0, 5, what -> x.core(3, what));
    }

    private static void coreOfNothing() {
        Check.sentence("Throws IllegalArgumentException if what is out of range", "core");
        SpeculativeCaches x = Check.busy();
        for (int c = 0; c < 3; c++) {
            int core = c;
            Check.dueThrowOutside(x, ILLEGAL, "core(" + core + ", what)", 0, 5, what -> x.core(core, what));
        }
    }

    private static void finishedCores() {
        Check.sentence("3 the number of finished cores");
        SpeculativeCaches x = Check.with(0, 4, "a1;", "a1;", "b;w0;", "b;");
        for (int core = 0; core < 4; core++) {
            Check.due("finished", x.value(3), core);
            Check.steps(x, core, x.core(core, 2));
        }
        Check.due("all", x.value(3), 4);
        x.poke(0, 1);
        Check.due("an aborted one is not", x.value(3), 3);
        x.again(0);
        Check.due("one that runs again is not", x.value(3), 2);
        Check.load(x, 1, "");
        Check.due("one without instructions is", x.value(3), 2);
    }

    private static void numbersGiven() {
        Check.sentence("4 the number of transactions that have got a number");
        SpeculativeCaches x = Check.with(0, 4, "b;r0;c;", "b;c;");
        Check.due("none", x.value(4), 0);
        Check.steps(x, 0, 2);
        Check.due("one", x.value(4), 1);
        x.poke(0, 1);
        Check.due("an aborted one has got one", x.value(4), 1);
        x.step(0);
        Check.due("begun again", x.value(4), 1);
        x.step(0);
        x.poke(0, 2);
        x.load(0);
        Check.due("one that is given up has got one", x.value(4), 1);
        x.step(0);
        x.step(1);
        Check.due("three", x.value(4), 3);
    }

    private static void valueRefused() {
        Check.sentence("Throws IllegalArgumentException if what is out of range", "value");
        SpeculativeCaches x = Check.busy();
        Check.dueThrowOutside(x, ILLEGAL, "value", 0, 4, what -> x.value(what));
        int[] due = {3, 1, 2, 0, 3};
        for (int what = 0; what < 5; what++) {
            Check.due("value(" + what + ")", x.value(what), due[what]);
        }
    }

    private static void countersOfAborts() {
        Check.sentence("5 aborts by conflicts (by poke(), too), 6 capacity aborts");
        SpeculativeCaches x = Check.with(1, 1, "b;w0;w1;", "b;r0;", "b;r2;", "b;r2;");
        Check.steps(x, 0, 2);
        Check.steps(x, 1, 2);
        Check.due("the requester", x.counter(5) * 10 + x.counter(6), 10);
        x.step(0);
        Check.due("the capacity", x.counter(5) * 10 + x.counter(6), 11);
        Check.steps(x, 2, 2);
        Check.steps(x, 3, 2);
        x.poke(2, 1);
        Check.due("two by a poke", x.counter(5) * 10 + x.counter(6), 31);
    }

    private static void counterOfSteps() {
        Check.sentence("7 steps");
        SpeculativeCaches x = Check.with(1, 1, "b;b;w0;w1;", "b;r0;c;");
        Check.steps(x, 0, 3);
        Check.due("steps that change nothing count", x.counter(7), 3);
        x.step(0);
        Check.due("a step that aborts counts", x.counter(7), 4);
        x.run(10);
        Check.due("scheduled steps count", x.counter(7), 14);
        x.abortsWith(0, 10);
        x.finish(0);
        x.poke(0, 0);
        Check.due("what-if steps do not", x.counter(7), 14);
    }

    private static void counterRefused() {
        Check.sentence("Throws IllegalArgumentException if what is out of range", "counter");
        SpeculativeCaches x = Check.busy();
        Check.dueThrowOutside(x, ILLEGAL, "counter", 0, 7, what -> x.counter(what));
        int[] due = {2, 4, 0, 0, 0, 1, 0, 11};
        for (int what = 0; what < 8; what++) {
            Check.due("counter(" + what + ")", x.counter(what), due[what]);
        }
    }
}
