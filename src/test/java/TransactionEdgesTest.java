/**
 * Boundary cases of "Cores and lines", "Programs", "Transactions" and "Conflicts": one method a sentence of the
 * document, which it quotes.
 */
public final class TransactionEdgesTest {
    public static void main(String[] args) {
        coresAndLines();
        additionsWrapAround();
        additionsWrapAroundInTransactions();
        initiallyZeros();
        initiallyInvalid();
        initiallyAtTheStart();
        initiallyNoInstructions();
        atMostThirtyInstructions();
        finishedAtTheEnd();
        beginRemembersAndEmpties();
        beginWithinTransaction();
        commitWithoutTransaction();
        positionAfterAnAbortOfOthers();
        positionAfterTheOwnAbort();
        numbersFromZero();
        numberKeptThroughAborts();
        noSetsWithoutTransaction();
        bufferExactlyFull();
        bufferOnlyForWrites();
        bufferOnlyInTransactions();
        abortRestoresThreeThings();
        abortInvalidatesOnlyTheWriteSet();
        abortedIsOver();
        readConflictsWithWriteSetOnly();
        writeConflictsWithBothSets();
        noConflictWithItself();
        ascendingOrder();
        noTransactionWinsAlways();
        requesterWinsBothWays();
        holderWinsBothWays();
        byNumberBothWays();
        policyOfTheMoment();
        requesterAbortedAtTheFirst();
        nothingElseAfterOwnAbort();
        capacityAfterConflicts();
        Check.end();
    }

    private static void coresAndLines() {
        Check.sentence("There are 2 to 4 cores, numbered from 0, and 8 lines, numbered 0 to 7.");
        for (int cores = 2; cores <= 4; cores++) {
            SpeculativeCaches x = new SpeculativeCaches();
            x.begin(cores, 0, 4);
            int last = cores - 1;
            Check.load(x, last, "a5;w7;w0;");
            Check.steps(x, last, 3);
            Check.due("the last line of the last core", x.cached(last, 7), 5);
            Check.due("the first line of the last core", x.cached(last, 0), 5);
            Check.dueThrowOutside(x, IndexOutOfBoundsException.class, "set", 0, last, core -> x.set(core, true));
        }
    }

    private static void additionsWrapAround() {
        Check.sentence("values are ints (additions wrap around)");
        SpeculativeCaches x = Check.with(0, 4, "r0;a1;w1;a-1;w2;a999;a-999;");
        x.poke(0, Integer.MAX_VALUE);
        Check.steps(x, 0, 3);
        Check.due("one above the greatest", x.memory(1, true), Integer.MIN_VALUE);
        Check.steps(x, 0, 2);
        Check.due("one below the least", x.memory(2, true), Integer.MAX_VALUE);
        x.step(0);
        Check.due("999 above the greatest", x.core(0, 0), Integer.MIN_VALUE + 998);
        x.step(0);
        Check.due("and back", x.core(0, 0), Integer.MAX_VALUE);
    }

    private static void additionsWrapAroundInTransactions() {
        Check.sentence("values are ints (additions wrap around)", "in a transaction and in the log");
        SpeculativeCaches x = Check.with(0, 4, "b;r0;a-1;w0;c;");
        x.poke(0, Integer.MIN_VALUE);
        Check.steps(x, 0, 5);
        Check.due("first read", x.commitValue(1, 0, false), Integer.MIN_VALUE);
        Check.due("final value", x.commitValue(1, 0, true), Integer.MAX_VALUE);
    }

    private static void initiallyZeros() {
        Check.sentence("The memory has a value for each line, initially 0");
        for (int line = 0; line < 8; line++) {
            SpeculativeCaches x = new SpeculativeCaches();
            Check.due("memory", x.memory(line, false), 0);
            Check.due("committed", x.memory(line, true), 0);
            Check.load(x, 1, "a9;r" + line + ";");
            Check.steps(x, 1, 2);
            Check.due("what is read", x.core(1, 0), 0);
        }
    }

    private static void initiallyInvalid() {
        Check.sentence("Each core has a cache in which each line is in a state: 0 invalid (initially)");
        SpeculativeCaches x = new SpeculativeCaches();
        for (int core = 0; core < 2; core++) {
            for (int line = 0; line < 8; line++) {
                Check.due("state", x.state(core, line), 0);
                Check.due("cached", x.cached(core, line), 0);
            }
        }
        Check.load(x, 0, "r0;w7;");
        Check.steps(x, 0, 2);
        Check.due("both are misses", x.counter(0) * 10 + x.counter(1), 11);
    }

    private static void initiallyAtTheStart() {
        Check.sentence("A core has an accumulator, initially 0, and a position in its program, initially 0");
        SpeculativeCaches x = new SpeculativeCaches();
        for (int core = 0; core < 2; core++) {
            Check.due("accumulator and position", x.core(core, 0) | x.core(core, 1), 0);
        }
        Check.load(x, 1, "w3;a1;");
        x.step(1);
        Check.due("the first instruction writes 0", x.state(1, 3) * 10 + x.cached(1, 3), 20);
    }

    private static void initiallyNoInstructions() {
        Check.sentence("Each core has a program of at most 30 instructions, initially none");
        SpeculativeCaches x = new SpeculativeCaches();
        Check.due("instructions", x.core(0, 2) + x.core(1, 2), 0);
        Check.due("all are finished", x.value(3), 2);
        Check.dueState(x, "step", () -> x.step(1));
        Check.due("run", x.run(1), 2);
        Check.due("no steps", x.counter(7), 0);
    }

    private static void atMostThirtyInstructions() {
        Check.sentence("Each core has a program of at most 30 instructions");
        SpeculativeCaches x = new SpeculativeCaches();
        Check.due("30", Check.load(x, 0, "a1;".repeat(30)), 30);
        Check.due("31", Check.load(x, 0, "a1;".repeat(31)), -100);
        Check.steps(x, 0, 29);
        Check.due("29 steps", x.value(3), 1);
        x.step(0);
        Check.due("the 30th is done", x.core(0, 0), 30);
        Check.dueState(x, "a 31st step", () -> x.step(0));
    }

    private static void finishedAtTheEnd() {
        Check.sentence("it is finished if the position is the number of instructions");
        SpeculativeCaches x = Check.with(0, 4, "b;r0;", "a1;");
        x.step(0);
        Check.due("at the last instruction", x.value(3), 0);
        x.step(0);
        Check.due("after the last one, with a transaction", x.value(3), 1);
        Check.due("position", x.core(0, 1), 2);
        Check.dueState(x, "step", () -> x.step(0));
        x.poke(0, 1);
        Check.due("an abort takes it back", x.value(3), 0);
    }

    private static void beginRemembersAndEmpties() {
        Check.sentence("begin: if the core has no transaction, one begins: the position and the accumulator are "
                + "remembered, read set and write set are empty");
        SpeculativeCaches x = Check.with(0, 4, "b;r0;w1;c;a5;b;r2;a1;");
        Check.steps(x, 0, 6);
        Check.dueSets(x, 0, 0, 0);
        Check.due("poke of a line of the transaction before", x.poke(0, 9), 0);
        Check.steps(x, 0, 2);
        Check.due("poke", x.poke(2, 9), 1);
        Check.due("position", x.core(0, 1), 5);
        Check.due("accumulator", x.core(0, 0), 5);
        Check.dueSets(x, 0, 0, 0);
        x.step(0);
        Check.dueSets(x, 0, 0, 0);
        Check.due("poke after the begin", x.poke(2, 8), 0);
    }

    private static void beginWithinTransaction() {
        Check.sentence("If it has one, nothing happens.");
        SpeculativeCaches x = Check.with(0, 4, "a2;b;r0;w1;a3;b;r4;");
        Check.steps(x, 0, 5);
        Check.due("step", x.step(0), 0);
        Check.dueSets(x, 0, 1, 2);
        Check.due("number", x.core(0, 3), 0);
        Check.due("numbers", x.value(4), 1);
        Check.due("position", x.core(0, 1), 6);
        x.step(0);
        Check.due("poke", x.poke(4, 1), 1);
        Check.due("the first begin's position", x.core(0, 1), 1);
        Check.due("the first begin's accumulator", x.core(0, 0), 2);
    }

    private static void commitWithoutTransaction() {
        Check.sentence("commit: if the core has a transaction, it is committed; if it has none, nothing happens.");
        SpeculativeCaches x = Check.with(0, 4, "c;b;c;c;");
        long[] commits = {0, 0, 1, 1};
        for (int i = 0; i < 4; i++) {
            Check.due("step", x.step(0), 0);
            Check.due("logged", x.commits(), commits[i]);
            Check.due("done", x.core(0, 4), commits[i]);
            Check.due("position", x.core(0, 1), i + 1);
        }
    }

    private static void positionAfterAnAbortOfOthers() {
        Check.sentence("Then the position increases by 1, unless the transaction of the core has been aborted by "
                + "this step.");
        SpeculativeCaches x = Check.with(0, 4, "b;w0;", "r0;w0;");
        Check.steps(x, 0, 2);
        Check.due("step that aborts another", x.step(1), 1);
        Check.due("position", x.core(1, 1), 1);
        x.step(1);
        Check.due("position at the end", x.core(1, 1), 2);
    }

    private static void positionAfterTheOwnAbort() {
        Check.sentence("unless the transaction of the core has been aborted by this step");
        SpeculativeCaches x = Check.with(1, 1, "b;w0;w1;", "a1;b;r0;");
        Check.steps(x, 0, 2);
        Check.steps(x, 1, 2);
        Check.due("aborted by a conflict", x.step(1), 9);
        Check.due("position of its begin", x.core(1, 1), 1);
        Check.due("aborted by the capacity", x.step(0), 9);
        Check.due("position of its begin", x.core(0, 1), 0);
    }

    private static void numbersFromZero() {
        Check.sentence("A transaction gets a number when it begins for the first time, from 0 on");
        SpeculativeCaches x = Check.with(0, 4, "b;c;b;c;", "b;c;");
        x.step(1);
        Check.due("the first", x.core(1, 3), 0);
        x.step(0);
        Check.due("the second", x.core(0, 3), 1);
        Check.steps(x, 0, 2);
        Check.due("the third", x.core(0, 3), 2);
        Check.due("numbers", x.value(4), 3);
    }

    private static void numberKeptThroughAborts() {
        Check.sentence("it keeps this number when it is begun again after an abort");
        SpeculativeCaches x = Check.with(0, 1, "b;r0;c;b;c;", "b;w1;w2;");
        Check.steps(x, 0, 2);
        Check.steps(x, 1, 2);
        for (int i = 0; i < 3; i++) {
            x.poke(0, i);
            Check.due("aborted by poke", x.core(0, 3), -1);
            Check.steps(x, 0, 2);
            Check.due("the number", x.core(0, 3), 0);
            Check.due("aborted by the capacity", x.step(1), 9);
            Check.steps(x, 1, 2);
            Check.due("the other number", x.core(1, 3), 1);
        }
        Check.due("numbers", x.value(4), 2);
        Check.steps(x, 0, 2);
        Check.due("the number of the next transaction", x.core(0, 3), 2);
    }

    private static void noSetsWithoutTransaction() {
        Check.sentence("A read within a transaction puts the line into its read set, a write puts it into its write "
                + "set.");
        SpeculativeCaches x = Check.with(0, 4, "r0;w1;b;w0;r0;r7;w7;c;r2;w3;");
        Check.steps(x, 0, 3);
        Check.dueSets(x, 0, 0, 0);
        x.step(0);
        Check.dueSets(x, 0, 0, 1);
        x.step(0);
        Check.dueSets(x, 0, 1, 1);
        Check.steps(x, 0, 2);
        Check.dueSets(x, 0, 129, 129);
        Check.steps(x, 0, 3);
        Check.dueSets(x, 0, 0, 0);
    }

    private static void bufferExactlyFull() {
        Check.sentence("The write set has at most as many lines as the buffer (1 to 8, initially 4): a write that "
                + "would put one more into it aborts the transaction (a capacity abort).");
        for (int buffer = 1; buffer <= 8; buffer++) {
            StringBuilder text = new StringBuilder("b;");
            for (int line = 0; line < buffer; line++) {
                text.append('w').append(line).append(';');
            }
            text.append("w0;").append(buffer == 8 ? "c;" : "w7;");
            SpeculativeCaches x = Check.with(0, buffer, text.toString());
            Check.steps(x, 0, buffer + 1);
            Check.dueSets(x, 0, 0, (1 << buffer) - 1);
            Check.due("a line that is in the full set", x.step(0), 0);
            Check.due("one more line, or the commit of 8", x.step(0), buffer == 8 ? 0 : 9);
            Check.due("capacity aborts", x.counter(6), buffer == 8 ? 0 : 1);
            Check.due("aborts by conflicts", x.counter(5), 0);
            Check.due("position", x.core(0, 1), buffer == 8 ? 11 : 0);
        }
    }

    private static void bufferOnlyForWrites() {
        Check.sentence("The write set has at most as many lines as the buffer", "reads do not count");
        SpeculativeCaches x = Check.with(0, 1, "b;r0;r1;r2;r3;r4;r5;r6;r7;w7;r0;c;");
        Check.steps(x, 0, 11);
        Check.dueSets(x, 0, 255, 128);
        Check.due("commit", x.step(0), 0);
    }

    private static void bufferOnlyInTransactions() {
        Check.sentence("a write that would put one more into it aborts the transaction", "none without a transaction");
        SpeculativeCaches x = Check.with(0, 1, "w0;w1;w2;b;w3;c;w4;w5;");
        Check.steps(x, 0, 8);
        Check.due("finished", x.core(0, 1), 8);
        Check.due("aborts", x.counter(5) + x.counter(6), 0);
    }

    private static void abortRestoresThreeThings() {
        Check.sentence("An abort of the transaction of a core: position and accumulator become the remembered ones "
                + "(so that its begin is executed again), both sets become empty");
        SpeculativeCaches x = Check.with(0, 4, "a7;b;a1;r0;w1;r2;a5;");
        Check.steps(x, 0, 7);
        Check.due("finished", x.core(0, 1), 7);
        Check.due("poke", x.poke(2, 3), 1);
        Check.due("position", x.core(0, 1), 1);
        Check.due("accumulator", x.core(0, 0), 7);
        Check.dueSets(x, 0, 0, 0);
        x.step(0);
        Check.due("begun again", x.core(0, 3), 0);
        Check.dueSets(x, 0, 0, 0);
    }

    private static void abortInvalidatesOnlyTheWriteSet() {
        Check.sentence("all lines of its write set become invalid in its cache");
        SpeculativeCaches x = Check.with(0, 4, "a6;w7;w6;b;r1;r2;w2;w0;w7;r6;", "r5;r1;", "b;r3;w4;");
        Check.steps(x, 0, 10);
        Check.steps(x, 1, 2);
        Check.steps(x, 2, 3);
        x.poke(6, 1);
        int[] due = {0, 1, 0, 0, 0, 0, 0, 0};
        for (int line = 0; line < 8; line++) {
            Check.due("state of line " + line, x.state(0, line), due[line]);
        }
        Check.due("lines of another reader", x.state(1, 5) * 10 + x.state(1, 1), 11);
        Check.due("lines of another transaction", x.state(2, 3) * 10 + x.state(2, 4), 12);
        SpeculativeCaches y = Check.with(0, 4, "a6;w7;b;w0;r7;");
        Check.steps(y, 0, 5);
        y.poke(0, 1);
        Check.due("a modified line that was only read stays", y.state(0, 7) * 10 + y.cached(0, 7), 26);
    }

    private static void abortedIsOver() {
        Check.sentence("A transaction that is aborted is over until its begin is executed again.");
        SpeculativeCaches x = Check.with(1, 4, "b;r0;w1;c;", "b;r1;w0;c;");
        Check.steps(x, 0, 3);
        x.poke(0, 4);
        Check.due("number", x.core(0, 3), -1);
        Check.due("nothing left for a poke", x.poke(0, 5) + x.poke(1, 5), 0);
        Check.due("a read without a conflict", x.step(1) + x.step(1), 0);
        Check.due("a write without a conflict", x.step(1), 0);
        x.step(0);
        Check.due("begun again", x.core(0, 3), 0);
        Check.due("now it conflicts", x.step(0), 9);
    }

    private static void readConflictsWithWriteSetOnly() {
        Check.sentence("A read of a line by a core conflicts with the transaction of another core if the line is in "
                + "the write set of that one");
        SpeculativeCaches x = Check.with(0, 4, "b;r0;w1;r1;w2;", "b;r0;r3;r1;", "b;r2;");
        Check.steps(x, 0, 5);
        Check.steps(x, 1, 1);
        Check.due("in the read set", x.step(1), 0);
        Check.due("in no set", x.step(1), 0);
        Check.due("in both sets", x.step(1), 1);
        Check.steps(x, 2, 1);
        Check.due("the aborted one has no sets", x.step(2), 0);
        Check.due("aborts by conflicts", x.counter(5), 1);
    }

    private static void writeConflictsWithBothSets() {
        Check.sentence("a write conflicts if the line is in its read set or in its write set");
        String[] held = {"r0;", "w0;", "r0;w0;", "w0;r0;", "r1;", "w7;"};
        int[] aborted = {1, 1, 1, 1, 0, 0};
        for (int i = 0; i < held.length; i++) {
            SpeculativeCaches x = Check.with(0, 4, "b;" + held[i], "b;w0;");
            Check.steps(x, 0, 1 + held[i].length() / 3);
            x.step(1);
            Check.due("write against '" + held[i] + "'", x.step(1), aborted[i]);
            Check.due("aborts by conflicts", x.counter(5), aborted[i]);
        }
    }

    private static void noConflictWithItself() {
        Check.sentence("conflicts with the transaction of another core");
        for (int policy = 0; policy < 3; policy++) {
            SpeculativeCaches x = Check.with(policy, 4, "", "b;r0;w0;r0;w0;w1;r1;c;");
            for (int i = 0; i < 8; i++) {
                Check.due("step", x.step(1), 0);
            }
            Check.due("aborts by conflicts", x.counter(5), 0);
        }
    }

    /** Core 1 has number 0, the requester 3 has 1, core 0 has 2, core 2 has 3: 0 is met first, 1 wins, 2 is not met. */
    private static void ascendingOrder() {
        Check.sentence("each conflict, in ascending order of the other cores, is resolved");
        SpeculativeCaches x = Check.with(2, 4, "b;r0;", "b;r0;", "b;r0;", "b;w0;");
        int[] order = {1, 3, 0, 2};
        for (int core : order) {
            x.step(core);
        }
        for (int core = 0; core < 3; core++) {
            x.step(core);
        }
        Check.due("one and the own one", x.step(3), 10);
        Check.due("core 0", x.core(0, 3), -1);
        Check.due("core 1", x.core(1, 3), 0);
        Check.due("core 2", x.core(2, 3), 3);
        Check.due("core 3", x.core(3, 3), -1);
    }

    private static void noTransactionWinsAlways() {
        Check.sentence("if the requesting core has no transaction, the other transaction is aborted");
        for (int policy = 0; policy < 3; policy++) {
            SpeculativeCaches x = Check.with(policy, 4, "b;r0;w1;", "b;r0;", "r1;w0;", "b;r0;");
            x.step(1);
            x.step(0);
            Check.steps(x, 0, 2);
            x.step(1);
            Check.steps(x, 3, 2);
            Check.due("read", x.step(2), 1);
            Check.due("write", x.step(2), 2);
            Check.due("finished", x.core(2, 1), 2);
            Check.due("its aborts", x.core(2, 5), 0);
        }
    }

    /** Cores 0 and 1 write line 0: the first has the lower number, the requester writes second. Returns its answer. */
    private static int fight(SpeculativeCaches x, int first, int requester) {
        x.step(first);
        x.step(1 - first);
        x.step(1 - requester);
        return x.step(requester);
    }

    private static void requesterWinsBothWays() {
        Check.sentence("0 (requester wins) the other transaction is aborted");
        for (int first = 0; first < 2; first++) {
            for (int requester = 0; requester < 2; requester++) {
                SpeculativeCaches x = Check.with(0, 4, "b;w0;", "b;w0;");
                Check.due("step", fight(x, first, requester), 1);
                Check.due("the requester", x.core(requester, 3), requester == first ? 0 : 1);
                Check.due("the holder", x.core(1 - requester, 3), -1);
            }
        }
    }

    private static void holderWinsBothWays() {
        Check.sentence("1 (holder wins) the transaction of the requester is aborted");
        for (int first = 0; first < 2; first++) {
            for (int requester = 0; requester < 2; requester++) {
                SpeculativeCaches x = Check.with(1, 4, "b;w0;", "b;w0;");
                Check.due("step", fight(x, first, requester), 9);
                Check.due("the requester", x.core(requester, 3), -1);
                Check.due("the holder", x.core(1 - requester, 3), requester == first ? 1 : 0);
            }
        }
    }

    private static void byNumberBothWays() {
        Check.sentence("2 (by number) the one with the greater number is aborted");
        for (int first = 0; first < 2; first++) {
            for (int requester = 0; requester < 2; requester++) {
                SpeculativeCaches x = Check.with(2, 4, "b;w0;", "b;w0;");
                Check.due("step", fight(x, first, requester), requester == first ? 1 : 9);
                Check.due("the lower number", x.core(first, 3), 0);
                Check.due("the greater number", x.core(1 - first, 3), -1);
            }
        }
    }

    private static void policyOfTheMoment() {
        Check.sentence("Otherwise, by the policy", "the one that is set when the step is done");
        SpeculativeCaches x = Check.with(0, 4, "b;r0;", "b;w0;");
        x.step(1);
        Check.steps(x, 0, 2);
        int[] due = {1, 9, 1};
        for (int policy = 0; policy < 3; policy++) {
            x.setPolicy(policy);
            Check.due("step under policy " + policy, x.step(1), due[policy]);
            x.undo();
        }
    }

    private static void requesterAbortedAtTheFirst() {
        Check.sentence("If the requester is aborted, the step ends there (further conflicts are not resolved");
        SpeculativeCaches x = Check.with(1, 4, "b;r0;", "b;r0;", "b;r0;", "b;w0;");
        for (int core = 0; core < 3; core++) {
            Check.steps(x, core, 2);
        }
        x.step(3);
        Check.due("only the own one", x.step(3), 9);
        Check.due("aborts by conflicts", x.counter(5), 1);
        for (int core = 0; core < 3; core++) {
            Check.dueSets(x, core, 1, 0);
        }
    }

    private static void nothingElseAfterOwnAbort() {
        Check.sentence("and nothing else happens)");
        SpeculativeCaches x = Check.with(1, 4, "a4;b;w0;", "a5;b;w0;", "a6;b;r0;");
        Check.steps(x, 0, 3);
        for (int core = 1; core < 3; core++) {
            Check.steps(x, core, 2);
            Check.due("step", x.step(core), 9);
            Check.due("state", x.state(core, 0), 0);
            Check.due("accumulator", x.core(core, 0), 4 + core);
        }
        long[] due = {0, 1, 0, 0, 0, 2, 0, 9};
        for (int what = 0; what < 8; what++) {
            Check.due("counter(" + what + ")", x.counter(what), due[what]);
        }
        Check.due("the holder", x.state(0, 0) * 10 + x.cached(0, 0), 24);
        Check.due("memory", x.memory(0, false), 0);
    }

    private static void capacityAfterConflicts() {
        Check.sentence("After the conflicts, for a write, the capacity is checked.");
        SpeculativeCaches x = Check.with(0, 1, "b;w0;w1;", "b;r1;", "b;r1;", "b;r1;");
        Check.steps(x, 0, 2);
        for (int core = 1; core < 4; core++) {
            Check.steps(x, core, 2);
        }
        x.setPolicy(1);
        Check.due("a lost conflict", x.step(0), 9);
        Check.due("no capacity abort", x.counter(6), 0);
        x.undo();
        x.setPolicy(0);
        Check.due("three conflicts, then the capacity", x.step(0), 12);
        Check.due("aborts by conflicts", x.counter(5), 3);
        Check.due("capacity aborts", x.counter(6), 1);
        Check.due("the readers keep the line", x.state(1, 1) + x.state(2, 1) + x.state(3, 1), 3);
        Check.due("nothing is invalidated", x.counter(3), 0);
    }
}
