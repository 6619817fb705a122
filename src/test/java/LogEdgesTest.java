/** Boundary cases of "Log" and promises 19 to 22: one method a sentence of the document, which it quotes. */
public final class LogEdgesTest {
    private static final Class<IndexOutOfBoundsException> BOUNDS = IndexOutOfBoundsException.class;

    public static void main(String[] args) {
        pokesBeyondTheFourHundredth();
        commitsBeyondTheFourHundredth();
        writesBeyondTheFourHundredth();
        undoOfAFullLog();
        emptyTransaction();
        valueOfTheFirstRead();
        readAfterTheOwnWrite();
        readBeforeTheTransaction();
        firstReadsOfTheLastAttempt();
        firstReadsOfZeros();
        finalValues();
        abortedIsNotLogged();
        readsOutsideAreNotLogged();
        writesOutsideAreLogged();
        pokesAreLogged();
        serializableFromZeros();
        serializableByLoggedWrites();
        serializableWithOtherLinesBetween();
        serializableWhenFull();
        coreAndTransaction();
        setsOfAllLines();
        noSuchCommit();
        noSuchLine();
        whatOutOfRange();
        noValue();
        Check.end();
    }

    /** A simulator with so many pokes in its log: poke number i has put i into line 0. */
    private static SpeculativeCaches poked(int pokes, String program) {
        SpeculativeCaches x = Check.with(0, 4, program);
        for (int i = 0; i < pokes; i++) {
            x.poke(0, i);
        }
        return x;
    }

    private static void pokesBeyondTheFourHundredth() {
        Check.sentence("Returns 0 to 400 (commits beyond the 400th are done, but not logged).", "pokes");
        Check.due("commits of a new object", new SpeculativeCaches().commits(), 0);
        SpeculativeCaches x = poked(399, "");
        Check.due("commits", x.commits(), 399);
        Check.dueBounds(x, "commit(399, 0)", () -> x.commit(399, 0));
        x.poke(1, 70);
        Check.due("the 400th", x.commits(), 400);
        Check.dueEntry(x, 399, -1, -1, 0, 2);
        x.poke(2, 80);
        Check.due("the 401st", x.commits(), 400);
        Check.due("it is done", x.memory(2, false), 80);
        Check.dueEntry(x, 399, -1, -1, 0, 2);
        Check.dueBounds(x, "commit(400, 0)", () -> x.commit(400, 0));
        Check.dueBounds(x, "commitValue(400, 2, true)", () -> x.commitValue(400, 2, true));
    }

    private static void commitsBeyondTheFourHundredth() {
        Check.sentence("commits beyond the 400th are done, but not logged", "transactions");
        SpeculativeCaches x = poked(399, "b;r0;c;b;r0;a1;w0;c;");
        Check.steps(x, 0, 3);
        Check.due("the 400th", x.commits(), 400);
        Check.dueEntry(x, 399, 0, 0, 1, 0);
        Check.due("its read", x.commitValue(399, 0, false), 398);
        Check.steps(x, 0, 5);
        Check.due("the 401st", x.commits(), 400);
        Check.due("it is done", x.core(0, 4), 2);
        Check.due("its value", x.memory(0, true), 399);
        Check.due("no transaction is left", x.core(0, 3), -1);
        Check.dueEntry(x, 399, 0, 0, 1, 0);
    }

    private static void writesBeyondTheFourHundredth() {
        Check.sentence("commits beyond the 400th are done, but not logged", "writes outside of transactions");
        SpeculativeCaches x = poked(399, "a5;w3;w4;");
        Check.steps(x, 0, 2);
        Check.due("the 400th", x.commits(), 400);
        Check.dueEntry(x, 399, 0, -1, 0, 8);
        x.step(0);
        Check.due("the 401st", x.commits(), 400);
        Check.due("it is done", x.memory(4, true), 5);
        Check.dueEntry(x, 399, 0, -1, 0, 8);
    }

    private static void undoOfAFullLog() {
        Check.sentence("there are at most 400", "undo makes room");
        SpeculativeCaches x = poked(401, "");
        Check.due("undo of the 401st", x.undo() * 1000 + x.commits(), 3400);
        Check.due("undo of the 400th", x.undo() * 1000 + x.commits(), 2399);
        x.poke(7, 7);
        Check.due("another 400th", x.commits(), 400);
        Check.dueEntry(x, 399, -1, -1, 0, 128);
        Check.due("its value", x.commitValue(399, 7, true), 7);
        Check.due("not that of the undone one", x.commitValue(399, 0, true), 0);
    }

    private static void emptyTransaction() {
        Check.sentence("Each commit is logged (all of them");
        SpeculativeCaches x = Check.with(0, 4, "b;c;b;a1;c;");
        Check.steps(x, 0, 5);
        Check.due("commits", x.commits(), 2);
        Check.dueEntry(x, 0, 0, 0, 0, 0);
        Check.dueEntry(x, 1, 0, 1, 0, 0);
        for (int line = 0; line < 8; line++) {
            Check.due("no values", x.commitValue(0, line, false) | x.commitValue(0, line, true), 0);
        }
    }

    private static void valueOfTheFirstRead() {
        Check.sentence("its first reads (for each line that was read before the transaction wrote to it, the value "
                + "of the first such read)");
        SpeculativeCaches x = Check.with(0, 4, "b;r0;r0;a1;w0;r0;a1;w0;r0;r7;r7;c;");
        x.poke(0, 50);
        x.poke(7, 60);
        Check.steps(x, 0, 12);
        Check.dueEntry(x, 2, 0, 0, 129, 1);
        Check.due("the value before the writes", x.commitValue(2, 0, false), 50);
        Check.due("the value of a line that is only read", x.commitValue(2, 7, false), 60);
    }

    private static void readAfterTheOwnWrite() {
        Check.sentence("for each line that was read before the transaction wrote to it",
                "not for one that was written first");
        SpeculativeCaches x = Check.with(0, 4, "b;a5;w0;r0;w7;r7;r1;c;");
        x.poke(0, 50);
        Check.steps(x, 0, 7);
        Check.due("the read set has them all", x.set(0, false), 131);
        x.step(0);
        Check.dueEntry(x, 1, 0, 0, 2, 129);
        Check.due("no first read", x.commitValue(1, 0, false), 0);
    }

    private static void readBeforeTheTransaction() {
        Check.sentence("first reads", "of the transaction, not of its core before");
        SpeculativeCaches x = Check.with(0, 4, "r0;b;r1;c;b;r2;c;");
        Check.steps(x, 0, 7);
        Check.dueEntry(x, 0, 0, 0, 2, 0);
        Check.dueEntry(x, 1, 0, 1, 4, 0);
    }

    private static void firstReadsOfTheLastAttempt() {
        Check.sentence("first reads", "of the last attempt after aborts");
        SpeculativeCaches x = Check.with(0, 4, "b;r0;c;", "b;r0;r1;w2;c;");
        Check.steps(x, 1, 4);
        x.poke(0, 4);
        x.poke(1, 5);
        Check.steps(x, 1, 3);
        x.poke(1, 6);
        Check.steps(x, 1, 5);
        Check.dueEntry(x, 3, 1, 0, 3, 4);
        Check.due("first read of 0", x.commitValue(3, 0, false), 4);
        Check.due("first read of 1", x.commitValue(3, 1, false), 6);
        Check.due("final value", x.commitValue(3, 2, true), 6);
        SpeculativeCaches y = Check.with(0, 1, "b;a1;w0;r0;w1;", "b;c;");
        Check.steps(y, 0, 4);
        y.setPolicy(2);
        y.poke(0, 9);
        Check.load(y, 0, "b;r0;c;");
        Check.steps(y, 0, 3);
        Check.dueEntry(y, 1, 0, 1, 1, 0);
        Check.due("a line that the aborted one had written", y.commitValue(1, 0, false), 9);
    }

    private static void firstReadsOfZeros() {
        Check.sentence("the set of lines of its first reads", "with values of 0, too");
        SpeculativeCaches x = Check.with(0, 4, "b;r0;r7;w6;c;");
        Check.steps(x, 0, 5);
        Check.dueEntry(x, 0, 0, 0, 129, 64);
        Check.due("values", x.commitValue(0, 0, false) | x.commitValue(0, 6, true), 0);
    }

    private static void finalValues() {
        Check.sentence("and the final values of its write set");
        SpeculativeCaches x = Check.with(0, 4, "b;a1;w0;w1;a1;w0;a1;w7;a9;c;w0;");
        Check.steps(x, 0, 11);
        Check.dueEntry(x, 0, 0, 0, 0, 131);
        Check.due("written twice", x.commitValue(0, 0, true), 2);
        Check.due("written once", x.commitValue(0, 1, true), 1);
        Check.due("written at the end", x.commitValue(0, 7, true), 3);
        Check.due("the write after the commit", x.commitValue(1, 0, true), 12);
    }

    private static void abortedIsNotLogged() {
        Check.sentence("Each commit is logged", "no abort is");
        SpeculativeCaches x = Check.with(1, 1, "b;w0;w1;", "b;r0;c;");
        Check.steps(x, 0, 2);
        x.step(1);
        Check.due("aborted by a conflict", x.step(1), 9);
        Check.due("aborted by the capacity", x.step(0), 9);
        Check.due("commits", x.commits(), 0);
    }

    private static void readsOutsideAreNotLogged() {
        Check.sentence("(Reads and writes outside of transactions are not logged");
        SpeculativeCaches x = Check.with(0, 4, "r0;r7;c;b;r0;", "b;w0;", "r0;");
        Check.steps(x, 0, 5);
        Check.steps(x, 1, 2);
        x.step(2);
        Check.due("commits", x.commits(), 0);
    }

    private static void writesOutsideAreLogged() {
        Check.sentence("each write outside of a transaction is logged, too, as a transaction NONE without reads that "
                + "writes that line.)");
        SpeculativeCaches x = Check.with(0, 4, "r7;a4;w7;w7;b;c;w0;", "w7;");
        Check.steps(x, 0, 7);
        x.step(1);
        Check.due("commits", x.commits(), 5);
        Check.dueEntry(x, 0, 0, -1, 0, 128);
        Check.dueEntry(x, 1, 0, -1, 0, 128);
        Check.dueEntry(x, 2, 0, 0, 0, 0);
        Check.dueEntry(x, 3, 0, -1, 0, 1);
        Check.dueEntry(x, 4, 1, -1, 0, 128);
        Check.due("no read", x.commitValue(0, 7, false), 0);
        Check.due("the value", x.commitValue(0, 7, true), 4);
        Check.due("the value of 0", x.commitValue(4, 7, true), 0);
        Check.due("commits that the cores have done", x.core(0, 4) * 10 + x.core(1, 4), 10);
    }

    private static void pokesAreLogged() {
        Check.sentence("each poke() .. is logged, too, as a transaction NONE without reads that writes that line");
        SpeculativeCaches x = new SpeculativeCaches();
        x.poke(0, 0);
        x.poke(7, Integer.MIN_VALUE);
        x.poke(7, Integer.MIN_VALUE);
        Check.due("commits", x.commits(), 3);
        Check.dueEntry(x, 0, -1, -1, 0, 1);
        Check.dueEntry(x, 1, -1, -1, 0, 128);
        Check.dueEntry(x, 2, -1, -1, 0, 128);
        Check.due("value", x.commitValue(2, 7, true), Integer.MIN_VALUE);
        Check.due("no read", x.commitValue(2, 7, false), 0);
        Check.due("numbers", x.value(4), 0);
    }

    private static void serializableFromZeros() {
        Check.sentence("The log is serializable if, beginning with all lines 0");
        Check.due("an empty log", new SpeculativeCaches().serializable(), true);
        SpeculativeCaches x = Check.with(0, 4, "b;r0;r7;c;");
        Check.steps(x, 0, 4);
        Check.due("reads of lines that were never written", x.serializable(), true);
        SpeculativeCaches y = Check.with(0, 4, "", "b;c;");
        Check.steps(y, 1, 2);
        Check.due("a transaction of nothing", y.serializable(), true);
    }

    private static void serializableByLoggedWrites() {
        Check.sentence("and changed only by the logged writes in the order of the commits, each transaction has read "
                + "the values that are there just before its writes");
        SpeculativeCaches x = Check.with(0, 4, "b;r0;a1;w0;c;b;r0;a1;w0;c;", "a7;w0;");
        x.poke(0, 5);
        Check.steps(x, 0, 5);
        Check.steps(x, 1, 2);
        Check.due("it has read before its own write", x.serializable(), true);
        Check.steps(x, 0, 5);
        Check.due("and the write of another core", x.serializable(), true);
        Check.due("the read after that write", x.commitValue(3, 0, false), 7);
        x.begin(2, 0, 4);
        Check.load(x, 0, "b;r0;c;");
        Check.steps(x, 0, 3);
        Check.due("from zeros again after begin", x.serializable(), true);
    }

    private static void serializableWithOtherLinesBetween() {
        Check.sentence("and changed only by the logged writes", "a commit leaves the lines that it did not write");
        SpeculativeCaches x = Check.with(0, 4, "b;a3;w1;r2;c;", "b;r0;r1;r7;c;", "w6;");
        x.poke(0, 5);
        x.poke(7, 6);
        Check.steps(x, 0, 5);
        x.step(2);
        Check.steps(x, 1, 5);
        Check.due("first reads", x.commitValue(4, 0, false) * 100 + x.commitValue(4, 1, false) * 10
                + x.commitValue(4, 7, false), 536);
        Check.due("serializable", x.serializable(), true);
    }

    private static void serializableWhenFull() {
        Check.sentence("Tells whether the log is serializable.", "a full one");
        SpeculativeCaches x = poked(399, "b;r0;a1;w0;c;a5;w0;b;r0;c;");
        Check.steps(x, 0, 10);
        Check.due("commits", x.commits(), 400);
        Check.due("serializable", x.serializable(), true);
    }

    private static void coreAndTransaction() {
        Check.sentence("0 its core (NONE for poke()), 1 its transaction (NONE for poke() and for a write outside of "
                + "a transaction)");
        SpeculativeCaches x = Check.with(0, 4, "b;c;", "b;c;", "w1;", "b;w7;c;");
        x.step(3);
        for (int core = 0; core < 2; core++) {
            Check.steps(x, core, 2);
        }
        x.step(2);
        Check.steps(x, 3, 2);
        x.poke(0, 1);
        Check.dueEntry(x, 0, 0, 1, 0, 0);
        Check.dueEntry(x, 1, 1, 2, 0, 0);
        Check.dueEntry(x, 2, 2, -1, 0, 2);
        Check.dueEntry(x, 3, 3, 0, 0, 128);
        Check.dueEntry(x, 4, -1, -1, 0, 1);
    }

    private static void setsOfAllLines() {
        Check.sentence("2 the set of lines of its first reads, 3 the set of lines that it has written");
        SpeculativeCaches x = Check.with(0, 8, "b;r0;r1;r2;r3;r4;r5;r6;r7;w0;w1;w2;w3;w4;w5;w6;w7;c;");
        Check.steps(x, 0, 18);
        Check.dueEntry(x, 0, 0, 0, 255, 255);
    }

    private static void noSuchCommit() {
        Check.sentence("Throws IndexOutOfBoundsException if there is no such commit");
        SpeculativeCaches x = new SpeculativeCaches();
        for (int commits = 0; commits <= 2; commits++) {
            Check.dueThrowOutside(x, BOUNDS, "commit", 0, commits - 1, commit -> x.commit(commit, 0));
            Check.dueThrowOutside(x, BOUNDS, "commit of 4", 0, commits - 1, commit -> x.commit(commit, 4));
            Check.dueThrowOutside(x, BOUNDS, "commitValue", 0, commits - 1, commit -> x.commitValue(commit, 0, true));
            x.poke(0, 1);
        }
        x.begin(2, 0, 4);
        Check.dueBounds(x, "commit(0, 0) after begin", () -> x.commit(0, 0));
    }

    private static void noSuchLine() {
        Check.sentence("Throws IndexOutOfBoundsException if there is no such commit or line");
        SpeculativeCaches x = new SpeculativeCaches();
        Check.dueBounds(x, "commitValue of neither", () -> x.commitValue(0, 8, true));
        x.poke(7, 1);
        Check.due("commitValue of the last line", x.commitValue(0, 7, true), 1);
        Check.dueThrowOutside(x, BOUNDS, "commitValue(0, line, true)", 0, 7, line -> x.commitValue(0, line, true));
        Check.dueThrowOutside(x, BOUNDS, "commitValue(0, line, false)", 0, 7, line -> x.commitValue(0, line, false));
        x.poke(6, 2);
        Check.dueBounds(x, "a line that would be in the next row", () -> x.commitValue(0, 14, true));
    }

    private static void whatOutOfRange() {
        Check.sentence("Throws IllegalArgumentException if what is out of range", "commit");
        SpeculativeCaches x = new SpeculativeCaches();
        x.poke(7, 1);
        Check.due("the last what", x.commit(0, 3), 128);
        Check.dueThrowOutside(x, IllegalArgumentException.class, "commit(0, what)", 0, 3, what -> x.commit(0, what));
    }

    private static void noValue() {
        Check.sentence("Returns that value; 0 if there is none.");
        SpeculativeCaches x = Check.with(0, 4, "b;r0;a1;w1;c;");
        x.poke(0, 5);
        Check.steps(x, 0, 5);
        int[] reads = {5, 0, 0, 0, 0, 0, 0, 0};
        int[] writes = {0, 6, 0, 0, 0, 0, 0, 0};
        for (int line = 0; line < 8; line++) {
            Check.due("first read of " + line, x.commitValue(1, line, false), reads[line]);
            Check.due("final value of " + line, x.commitValue(1, line, true), writes[line]);
        }
    }
}
