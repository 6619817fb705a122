/** Boundary cases of "Coherence": one method a sentence of the document, which it quotes. */
public final class CoherenceEdgesTest {
    public static void main(String[] args) {
        modifiedIsAlone();
        readOfAnInvalidLine();
        readOfASharedLine();
        readOfAModifiedLine();
        readOfALineModifiedElsewhere();
        writeOfAnInvalidLine();
        writeOfASharedLine();
        writeOfAModifiedLine();
        writeOfALineModifiedElsewhere();
        invalidationsOfNoneToThree();
        noInvalidationOfAnAbortedWriter();
        writeBackBeforeTheFirstWrite();
        noWriteBackOfASharedLine();
        noWriteBackOfTheSecondWrite();
        noWriteBackWithoutTransaction();
        memoryHasTheValueBefore();
        commitLeavesTheCache();
        writeBackOfTheSameValue();
        Check.end();
    }

    /** Read misses, write misses, upgrades, invalidations, writebacks. */
    private static void counted(SpeculativeCaches x, int... due) {
        for (int what = 0; what < due.length; what++) {
            Check.due("counter(" + what + ")", x.counter(what), due[what]);
        }
    }

    private static void states(SpeculativeCaches x, int line, int... due) {
        for (int core = 0; core < due.length; core++) {
            Check.due("state(" + core + ", " + line + ")", x.state(core, line), due[core]);
        }
    }

    private static void modifiedIsAlone() {
        Check.sentence("If a line is modified in a cache, it is invalid in all others.");
        String reads = "r7;w7;";
        SpeculativeCaches x = Check.with(0, 4, reads, reads, reads, reads);
        for (int core = 0; core < 4; core++) {
            x.step(core);
        }
        states(x, 7, 1, 1, 1, 1);
        for (int core = 0; core < 4; core++) {
            x.step(core);
            for (int other = 0; other < 4; other++) {
                Check.due("state of " + other + " after a write of " + core, x.state(other, 7), other == core ? 2 : 0);
            }
        }
    }

    private static void readOfAnInvalidLine() {
        Check.sentence("A read: if the line is invalid in the cache (a miss), .. the line becomes shared in the "
                + "cache of the requester, with the value of the memory.");
        SpeculativeCaches x = Check.with(0, 4, "r0;r7;");
        x.poke(7, -8);
        x.step(0);
        counted(x, 1, 0, 0, 0, 0);
        states(x, 0, 1, 0);
        x.step(0);
        counted(x, 2, 0, 0, 0, 0);
        Check.due("cached", x.cached(0, 7), -8);
        Check.due("accumulator", x.core(0, 0), -8);
    }

    private static void readOfASharedLine() {
        Check.sentence("A read: if the line is invalid in the cache (a miss)", "not if it is shared");
        SpeculativeCaches x = Check.with(0, 4, "r0;a5;r0;", "r0;b;r0;");
        x.poke(0, 3);
        Check.steps(x, 0, 3);
        counted(x, 1, 0, 0, 0, 0);
        Check.due("the result is the value in the cache", x.core(0, 0), 3);
        x.step(1);
        counted(x, 2, 0, 0, 0, 0);
        states(x, 0, 1, 1);
        Check.steps(x, 1, 2);
        counted(x, 2, 0, 0, 0, 0);
    }

    private static void readOfAModifiedLine() {
        Check.sentence("The result is the value in the cache.");
        SpeculativeCaches x = Check.with(0, 4, "a6;w0;a1;r0;b;w0;a1;r0;");
        Check.steps(x, 0, 4);
        Check.due("accumulator", x.core(0, 0), 6);
        counted(x, 0, 1, 0, 0, 0);
        states(x, 0, 2, 0);
        Check.steps(x, 0, 4);
        Check.due("accumulator in the transaction", x.core(0, 0), 6);
        counted(x, 0, 1, 0, 0, 1);
    }

    private static void readOfALineModifiedElsewhere() {
        Check.sentence("if it is modified in another cache, that one writes its value back to the memory, and the "
                + "line becomes shared there");
        SpeculativeCaches x = Check.with(0, 4, "a6;w0;", "", "r0;", "r0;");
        Check.steps(x, 0, 2);
        Check.due("memory before", x.memory(0, false), 0);
        x.step(3);
        counted(x, 1, 1, 0, 0, 1);
        states(x, 0, 1, 0, 0, 1);
        Check.due("memory", x.memory(0, false), 6);
        Check.due("values", x.cached(0, 0) * 10 + x.cached(3, 0), 66);
        x.step(2);
        counted(x, 2, 1, 0, 0, 1);
    }

    private static void writeOfAnInvalidLine() {
        Check.sentence("if the line is not modified in the cache (a write miss, if it is invalid");
        SpeculativeCaches x = Check.with(0, 4, "a2;w0;", "r0;w0;");
        Check.steps(x, 0, 2);
        counted(x, 0, 1, 0, 0, 0);
        states(x, 0, 2, 0);
        Check.due("cached", x.cached(0, 0), 2);
        Check.due("memory", x.memory(0, false), 0);
        Check.steps(x, 1, 2);
        counted(x, 1, 1, 1, 1, 1);
    }

    private static void writeOfASharedLine() {
        Check.sentence("otherwise an upgrade)");
        SpeculativeCaches x = Check.with(0, 4, "r0;a2;w0;", "b;r0;w0;");
        Check.steps(x, 0, 3);
        counted(x, 1, 0, 1, 0, 0);
        states(x, 0, 2, 0);
        Check.steps(x, 1, 3);
        counted(x, 2, 0, 2, 1, 1);
        states(x, 0, 0, 2);
    }

    private static void writeOfAModifiedLine() {
        Check.sentence("A write: if the line is not modified in the cache", "nothing of it if it is");
        SpeculativeCaches x = Check.with(0, 4, "w0;a2;w0;w0;");
        Check.steps(x, 0, 4);
        counted(x, 0, 1, 0, 0, 0);
        Check.due("cached", x.cached(0, 0), 2);
    }

    private static void writeOfALineModifiedElsewhere() {
        Check.sentence("then, if it is modified in another cache, that one writes its value back; it becomes invalid "
                + "in all other caches");
        SpeculativeCaches x = Check.with(0, 4, "a6;w0;", "a7;w0;", "b;a8;w0;");
        Check.steps(x, 0, 2);
        Check.steps(x, 1, 2);
        counted(x, 0, 2, 0, 1, 1);
        states(x, 0, 0, 2, 0);
        Check.due("memory", x.memory(0, false), 6);
        Check.steps(x, 2, 3);
        counted(x, 0, 3, 0, 2, 2);
        states(x, 0, 0, 0, 2);
        Check.due("memory", x.memory(0, false), 7);
    }

    private static void invalidationsOfNoneToThree() {
        Check.sentence("(an invalidation for each cache in which it was not invalid)");
        for (int sharers = 0; sharers <= 3; sharers++) {
            SpeculativeCaches x = Check.with(0, 4, "r0;", "r0;", "r0;", "r0;w0;");
            for (int core = 0; core < sharers; core++) {
                x.step(core);
            }
            x.step(3);
            x.step(3);
            counted(x, sharers + 1, 0, 1, sharers, 0);
            states(x, 0, 0, 0, 0, 2);
        }
    }

    private static void noInvalidationOfAnAbortedWriter() {
        Check.sentence("an invalidation for each cache in which it was not invalid",
                "an aborted writer's is invalid already");
        SpeculativeCaches x = Check.with(0, 4, "b;w0;", "b;r1;", "a5;w0;w1;");
        Check.steps(x, 0, 2);
        Check.steps(x, 1, 2);
        x.step(2);
        Check.due("write of a written line", x.step(2), 1);
        counted(x, 1, 2, 0, 0, 0);
        Check.due("write of a read line", x.step(2), 1);
        counted(x, 1, 3, 0, 1, 0);
    }

    private static void writeBackBeforeTheFirstWrite() {
        Check.sentence("If the requester has a transaction, and the line is not in its write set yet and was "
                + "modified already before this write, the value is first written back to the memory.");
        SpeculativeCaches x = Check.with(0, 4, "a3;w0;b;a1;w0;c;b;a1;w0;");
        Check.steps(x, 0, 4);
        counted(x, 0, 1, 0, 0, 0);
        x.step(0);
        counted(x, 0, 1, 0, 0, 1);
        Check.due("memory", x.memory(0, false), 3);
        Check.due("cached", x.cached(0, 0), 4);
        Check.steps(x, 0, 4);
        counted(x, 0, 1, 0, 0, 2);
        Check.due("memory in the next transaction", x.memory(0, false), 4);
        Check.due("cached in the next transaction", x.cached(0, 0), 5);
    }

    private static void noWriteBackOfASharedLine() {
        Check.sentence("and was modified already before this write", "not if it was shared or invalid");
        SpeculativeCaches x = Check.with(0, 4, "b;r0;a1;w0;w1;");
        x.poke(0, 5);
        x.poke(1, 5);
        Check.steps(x, 0, 5);
        counted(x, 1, 1, 1, 0, 0);
        Check.due("memory", x.memory(0, false) * 10 + x.memory(1, false), 55);
    }

    private static void noWriteBackOfTheSecondWrite() {
        Check.sentence("and the line is not in its write set yet", "only the first write");
        SpeculativeCaches x = Check.with(0, 4, "a3;w0;b;w0;a1;w0;w0;w1;a1;w1;");
        Check.steps(x, 0, 10);
        counted(x, 0, 2, 0, 0, 1);
        Check.due("memory", x.memory(0, false) * 10 + x.memory(1, false), 30);
        Check.due("cached", x.cached(0, 0) * 10 + x.cached(0, 1), 45);
    }

    private static void noWriteBackWithoutTransaction() {
        Check.sentence("If the requester has a transaction", "not without one");
        SpeculativeCaches x = Check.with(0, 4, "a3;w0;a1;w0;b;c;a1;w0;");
        Check.steps(x, 0, 8);
        counted(x, 0, 1, 0, 0, 0);
        Check.due("memory", x.memory(0, false), 0);
        Check.due("cached", x.cached(0, 0), 5);
    }

    /** Lines 0 to 4 before the writes: invalid everywhere, shared, modified, shared elsewhere, modified elsewhere. */
    private static void memoryHasTheValueBefore() {
        Check.sentence("(So the memory has the value from before the transaction for each line of a write set.)");
        SpeculativeCaches x = Check.with(0, 8, "r1;a60;w2;b;a9;w0;w1;w2;w3;w4;w2;", "r3;a4;w4;");
        x.poke(0, 10);
        x.poke(1, 20);
        x.poke(3, 40);
        Check.steps(x, 0, 3);
        Check.steps(x, 1, 3);
        Check.steps(x, 0, 8);
        int[] before = {10, 20, 80, 40, 44};
        for (int line = 0; line < 5; line++) {
            Check.due("memory of line " + line, x.memory(line, false), before[line]);
            Check.due("cached line " + line, x.cached(0, line), 89);
        }
        x.poke(0, 1);
        for (int line = 1; line < 5; line++) {
            Check.due("committed value of line " + line + " after the abort", x.memory(line, true), before[line]);
        }
    }

    private static void commitLeavesTheCache() {
        Check.sentence("A commit makes both sets empty; the values in the cache stay.");
        SpeculativeCaches x = Check.with(0, 4, "b;a4;w0;r1;c;", "r0;");
        x.poke(1, 6);
        Check.steps(x, 0, 5);
        Check.due("read set", x.set(0, false), 0);
        Check.due("write set", x.set(0, true), 0);
        Check.due("states", x.state(0, 0) * 10 + x.state(0, 1), 21);
        Check.due("values", x.cached(0, 0) * 10 + x.cached(0, 1), 46);
        Check.due("memory", x.memory(0, false), 0);
        counted(x, 1, 1, 0, 0, 0);
        Check.due("a read of another is no conflict", x.step(1), 0);
        Check.due("it reads the committed value", x.core(1, 0), 4);
    }

    private static void writeBackOfTheSameValue() {
        Check.sentence("A writeback is counted each time when a cache writes a value back to the memory.");
        SpeculativeCaches x = Check.with(0, 4, "w0;w1;b;w1;w1;", "r0;");
        Check.steps(x, 0, 4);
        counted(x, 0, 2, 0, 0, 1);
        x.step(1);
        counted(x, 1, 2, 0, 0, 2);
        x.step(0);
        counted(x, 1, 2, 0, 0, 2);
    }
}
