/** Boundary cases of promises 9 and 11: one method a sentence of the document, which it quotes. */
public final class StepEdgesTest {
    private static final Class<IndexOutOfBoundsException> BOUNDS = IndexOutOfBoundsException.class;

    public static void main(String[] args) {
        stepWithoutAborts();
        stepThatAbortsOthers();
        stepThatAbortsItself();
        stepThatAbortsAll();
        stepOfNoCore();
        stepOfAFinishedCore();
        pokeAbortsNoneToFour();
        pokeOfALineInBothSets();
        pokeAbortsOnlyByItsLine();
        pokeUnderEachPolicy();
        pokeInvalidatesEverywhere();
        pokeOfAModifiedLineLosesItsValue();
        pokeIsNoStep();
        pokeOfTheLeastAndTheGreatest();
        pokeOfNoLine();
        Check.end();
    }

    private static void stepWithoutAborts() {
        Check.sentence("Returns 0 if no transaction was aborted");
        SpeculativeCaches x = Check.with(2, 4, "b;b;a1;w0;r0;c;c;w0;r0;");
        for (int i = 0; i < 9; i++) {
            Check.due("step", x.step(0), 0);
        }
    }

    private static void stepThatAbortsOthers() {
        Check.sentence("otherwise the number of transactions that were aborted");
        for (int holders = 0; holders <= 3; holders++) {
            SpeculativeCaches x = Check.with(0, 4, "b;r0;", "b;r0;", "b;w0;", "b;r0;");
            for (int i = 0; i < holders; i++) {
                Check.steps(x, i < 2 ? i : 3, 2);
            }
            x.step(2);
            Check.due("step against " + holders, x.step(2), holders);
        }
    }

    private static void stepThatAbortsItself() {
        Check.sentence("plus 8 if that of the core itself was one of them");
        SpeculativeCaches x = Check.with(1, 1, "b;r0;w1;w2;", "b;w0;");
        Check.steps(x, 0, 2);
        x.step(1);
        Check.due("by a conflict", x.step(1), 9);
        x.step(0);
        Check.due("by the capacity", x.step(0), 9);
    }

    private static void stepThatAbortsAll() {
        Check.sentence("the number of transactions that were aborted, plus 8", "all four");
        SpeculativeCaches x = Check.with(0, 1, "b;r1;", "b;r1;", "b;w0;w1;", "b;r1;");
        for (int core = 0; core < 4; core++) {
            Check.steps(x, core, 2);
        }
        Check.due("step", x.step(2), 12);
        for (int core = 0; core < 4; core++) {
            Check.due("aborts of " + core, x.core(core, 5), 1);
            Check.due("position of " + core, x.core(core, 1), 0);
        }
    }

    private static void stepOfNoCore() {
        Check.sentence("Throws IndexOutOfBoundsException if there is no such core", "step");
        for (int cores = 2; cores <= 4; cores++) {
            SpeculativeCaches x = new SpeculativeCaches();
            x.begin(cores, 0, 4);
            Check.dueThrowOutside(x, BOUNDS, "step", 0, cores - 1, core -> x.step(core));
        }
    }

    private static void stepOfAFinishedCore() {
        Check.sentence("Throws IllegalStateException if the core is finished");
        SpeculativeCaches x = Check.with(0, 4, "a1;b;", "");
        Check.dueState(x, "step without instructions", () -> x.step(1));
        Check.steps(x, 0, 2);
        Check.dueState(x, "step after the last one", () -> x.step(0));
        x.begin(2, 0, 4);
        Check.dueState(x, "step after begin", () -> x.step(0));
    }

    private static void pokeAbortsNoneToFour() {
        Check.sentence("all transactions that have the line in their read set or write set are aborted .. Returns "
                + "the number of transactions that were aborted.", "none to four");
        for (int readers = 0; readers <= 4; readers++) {
            SpeculativeCaches x = Check.with(0, 4, "b;r0;", "b;r0;", "b;r0;", "b;r0;");
            for (int core = 0; core < readers; core++) {
                Check.steps(x, core, 2);
            }
            Check.due("poke", x.poke(0, 1), readers);
            Check.due("aborts by conflicts", x.counter(5), readers);
            Check.due("poke again", x.poke(0, 1), 0);
        }
    }

    private static void pokeOfALineInBothSets() {
        Check.sentence("in their read set or write set");
        String[] held = {"r0;", "w0;", "r0;w0;", "r1;", "w1;"};
        int[] aborted = {1, 1, 1, 0, 0};
        for (int i = 0; i < held.length; i++) {
            SpeculativeCaches x = Check.with(0, 4, "b;" + held[i]);
            Check.steps(x, 0, 1 + held[i].length() / 3);
            Check.due("poke against '" + held[i] + "'", x.poke(0, 1), aborted[i]);
            Check.due("its aborts", x.core(0, 5), aborted[i]);
        }
    }

    private static void pokeAbortsOnlyByItsLine() {
        Check.sentence("all transactions that have the line", "not those without it");
        SpeculativeCaches x = Check.with(0, 4, "b;r0;", "b;r7;w6;", "r0;");
        Check.steps(x, 0, 2);
        Check.steps(x, 1, 3);
        x.step(2);
        Check.due("a reader without a transaction is none", x.poke(0, 1), 1);
        Check.due("the other transaction", x.core(1, 3), 1);
        Check.due("its lines", x.state(1, 7) * 10 + x.state(1, 6), 12);
    }

    private static void pokeUnderEachPolicy() {
        Check.sentence("like a write by a core without a transaction and without a cache");
        for (int policy = 0; policy < 3; policy++) {
            SpeculativeCaches x = Check.with(policy, 1, "b;w0;", "b;r0;");
            Check.steps(x, 0, 2);
            x.step(1);
            Check.due("poke", x.poke(0, 3), 1);
            Check.due("value", x.memory(0, true), 3);
            Check.due("capacity aborts", x.counter(6), 0);
        }
    }

    private static void pokeInvalidatesEverywhere() {
        Check.sentence("the line becomes invalid in all caches (no writebacks, no invalidations are counted)");
        SpeculativeCaches x = Check.with(0, 4, "r0;r1;", "r0;", "r0;", "r0;");
        x.poke(0, 3);
        for (int core = 0; core < 4; core++) {
            x.step(core);
        }
        x.step(0);
        x.poke(0, 7);
        for (int core = 0; core < 4; core++) {
            Check.due("state", x.state(core, 0), 0);
            Check.due("cached", x.cached(core, 0), 0);
        }
        Check.due("another line stays", x.state(0, 1), 1);
        long[] due = {5, 0, 0, 0, 0, 0, 0, 5};
        for (int what = 0; what < 8; what++) {
            Check.due("counter(" + what + ")", x.counter(what), due[what]);
        }
    }

    private static void pokeOfAModifiedLineLosesItsValue() {
        Check.sentence("and the memory gets the value");
        SpeculativeCaches x = Check.with(0, 4, "a6;w0;w1;r0;");
        Check.steps(x, 0, 3);
        Check.due("poke", x.poke(0, 9), 0);
        Check.due("memory", x.memory(0, false) * 10 + x.memory(0, true), 99);
        Check.due("state", x.state(0, 0), 0);
        Check.due("writebacks and invalidations", x.counter(3) + x.counter(4), 0);
        Check.due("another line stays", x.state(0, 1) * 10 + x.cached(0, 1), 26);
        x.step(0);
        Check.due("the next read is a miss", x.counter(0) * 10 + x.core(0, 0), 19);
    }

    private static void pokeIsNoStep() {
        Check.sentence("Writes a value to the memory from outside");
        SpeculativeCaches x = Check.with(0, 4, "a1;");
        x.poke(0, 5);
        Check.due("steps", x.counter(7), 0);
        Check.due("position", x.core(0, 1), 0);
        Check.due("write misses", x.counter(1), 0);
        Check.due("commits of the cores", x.core(0, 4) + x.core(1, 4), 0);
        Check.due("s", x.seed(1), 1);
    }

    private static void pokeOfTheLeastAndTheGreatest() {
        Check.sentence("value: the value", "every int");
        SpeculativeCaches x = Check.with(0, 4, "r0;", "r7;");
        int[] values = {Integer.MIN_VALUE, -1, 0, 1, Integer.MAX_VALUE};
        for (int value : values) {
            for (int line = 0; line < 8; line += 7) {
                x.poke(line, value);
                Check.due("memory", x.memory(line, false), value);
                Check.due("committed", x.memory(line, true), value);
                Check.due("in the log", x.commitValue(x.commits() - 1, line, true), value);
            }
        }
    }

    private static void pokeOfNoLine() {
        Check.sentence("Throws IndexOutOfBoundsException if there is no such line", "poke");
        SpeculativeCaches x = Check.busy();
        Check.dueThrowOutside(x, BOUNDS, "poke(line, 1)", 0, 7, line -> x.poke(line, 1));
        Check.due("the log stays", x.commits(), 2);
        Check.due("poke(0, 1)", x.poke(0, 1), 1);
    }
}
