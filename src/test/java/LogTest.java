/** Promises 19 to 22: commits, commit, commitValue, serializable. */
public final class LogTest {
    public static void main(String[] args) {
        transactions();
        firstReads();
        outsiders();
        abortsAreNotLogged();
        rowsAreUsedAgain();
        fullLog();
        serializable();
        refusals();
        Check.end();
    }

    private static void transactions() {
        SpeculativeCaches x = Check.with(0, 4, "b;b;c;b;a2;w0;r1;a5;w0;w6;c;", "b;r0;c;");
        x.poke(1, 10);
        Check.due("commits", x.commits(), 1);
        Check.steps(x, 0, 3);
        Check.due("an empty transaction is logged", x.commits(), 2);
        Check.dueEntry(x, 1, 0, 0, 0, 0);
        Check.steps(x, 0, 8);
        Check.dueEntry(x, 2, 0, 1, 2, 65);
        Check.due("the final value", x.commitValue(2, 0, true), 15);
        Check.due("another final value", x.commitValue(2, 6, true), 15);
        Check.due("a first read", x.commitValue(2, 1, false), 10);
        Check.due("no first read", x.commitValue(2, 0, false), 0);
        Check.due("no written value", x.commitValue(2, 1, true), 0);
        Check.due("no value at all", x.commitValue(2, 7, true) + x.commitValue(2, 7, false), 0);
        Check.steps(x, 1, 3);
        Check.dueEntry(x, 3, 1, 2, 1, 0);
        Check.due("it has read the commit", x.commitValue(3, 0, false), 15);
        Check.due("commits", x.commits(), 4);
        Check.due("serializable", x.serializable(), true);
    }

    private static void firstReads() {
        SpeculativeCaches x = Check.with(0, 4, "b;r0;a1;w0;r0;w1;r1;r2;a1;w2;r2;c;");
        x.poke(0, 5);
        x.poke(1, 6);
        x.poke(2, 7);
        Check.steps(x, 0, 12);
        Check.dueEntry(x, 3, 0, 0, 5, 7);
        Check.due("first read of 0", x.commitValue(3, 0, false), 5);
        Check.due("1 was written first", x.commitValue(3, 1, false), 0);
        Check.due("first read of 2", x.commitValue(3, 2, false), 7);
        Check.due("written to 0", x.commitValue(3, 0, true), 6);
        Check.due("written to 1", x.commitValue(3, 1, true), 6);
        Check.due("written to 2", x.commitValue(3, 2, true), 8);
        Check.due("serializable", x.serializable(), true);
    }

    private static void outsiders() {
        SpeculativeCaches x = Check.with(0, 4, "r3;a4;w3;c;", "a6;w3;w3;");
        x.step(0);
        Check.due("a read outside of a transaction", x.commits(), 0);
        Check.steps(x, 0, 3);
        Check.due("a write outside of a transaction", x.commits(), 1);
        Check.dueEntry(x, 0, 0, -1, 0, 8);
        Check.due("its value", x.commitValue(0, 3, true), 4);
        Check.due("its read", x.commitValue(0, 3, false), 0);
        Check.due("not a commit of the core", x.core(0, 4), 0);
        x.poke(2, -9);
        Check.dueEntry(x, 1, -1, -1, 0, 4);
        Check.due("the poked value", x.commitValue(1, 2, true), -9);
        Check.steps(x, 1, 3);
        Check.dueEntry(x, 3, 1, -1, 0, 8);
        Check.due("each write is logged", x.commits(), 4);
        Check.due("poke of the same value", x.poke(2, -9), 0);
        Check.due("each poke is logged", x.commits(), 5);
        Check.due("serializable", x.serializable(), true);
    }

    private static void abortsAreNotLogged() {
        SpeculativeCaches x = Check.with(0, 4, "b;r0;r1;w2;c;");
        Check.steps(x, 0, 4);
        x.poke(0, 8);
        Check.due("only the poke", x.commits(), 1);
        Check.steps(x, 0, 5);
        Check.dueEntry(x, 1, 0, 0, 3, 4);
        Check.due("the read after the abort", x.commitValue(1, 0, false), 8);
        Check.due("serializable", x.serializable(), true);
    }

    private static void rowsAreUsedAgain() {
        SpeculativeCaches x = Check.with(0, 4, "b;r1;r0;a1;w2;w3;c;");
        x.poke(0, 8);
        Check.steps(x, 0, 7);
        x.begin(2, 0, 4);
        x.poke(5, 1);
        x.poke(6, 1);
        Check.dueEntry(x, 1, -1, -1, 0, 64);
        for (int line = 0; line < 8; line++) {
            Check.due("an old read", x.commitValue(1, line, false), 0);
            Check.due("an old write", x.commitValue(1, line, true), line == 6 ? 1 : 0);
        }
        x.undo();
        x.undo();
        x.undo();
        Check.dueEntry(x, 1, 0, 0, 3, 12);
        Check.due("the log after undo", x.commitValue(1, 2, true), 9);
        Check.due("commits after undo", x.commits(), 2);
    }

    private static void fullLog() {
        String writes = "w0;a1;".repeat(10) + "b;w1;c;b;r0;c;b;w2;c;";
        SpeculativeCaches x = Check.with(0, 4, "", writes);
        for (int i = 0; i < 31; i++) {
            x.run(1000);
            x.again(1);
        }
        // Each round logs 10 writes and 3 transactions: 30 rounds log 390, the 31st is cut after its writes.
        Check.due("a full log", x.commits(), 400);
        Check.dueEntry(x, 389, 1, 89, 0, 4);
        Check.dueEntry(x, 399, 1, -1, 0, 1);
        // A round begins with the value that line 0 got last: 9 more than the round before.
        Check.due("the last value", x.commitValue(399, 0, true), 30 * 9 + 9);
        Check.due("commits beyond are done", x.core(1, 4), 93);
        Check.due("numbers", x.value(4), 93);
        x.run(1000);
        Check.due("still full", x.commits(), 400);
        Check.due("poke of a full log", x.poke(3, 3), 0);
        Check.due("still full", x.commits(), 400);
        Check.due("the poke is done", x.memory(3, false), 3);
        Check.due("serializable", x.serializable(), true);
        Check.dueBounds(x, "commit(400, 0)", () -> x.commit(400, 0));
        Check.dueBounds(x, "commitValue(400, 0)", () -> x.commitValue(400, 0, true));
        Check.due("begin of a full log", x.begin(2, 0, 4), 400);
        Check.due("empty again", x.commits(), 0);
    }

    private static void serializable() {
        SpeculativeCaches x = new SpeculativeCaches();
        Check.due("an empty log", x.serializable(), true);
        String[] programs = {"b;r0;a1;w0;r1;a1;w1;c;w2;r3;b;r2;w3;c;", "r1;w1;b;r1;a2;w1;r0;a2;w0;c;b;r3;w2;c;",
            "b;r2;r0;r1;c;a3;w0;b;w3;r3;w0;c;"};
        for (int seed = 0; seed < 60; seed++) {
            x = Check.with(seed % 3, 1 + seed % 2, programs);
            x.seed(seed * 16127);
            for (int i = 0; i < 10; i++) {
                x.run(9);
                x.poke(i % 4, i - 4);
                Check.due("serializable", x.serializable(), true);
            }
        }
        Check.due("still saved", Check.savedStates(x), 4);
    }

    private static void refusals() {
        SpeculativeCaches x = Check.with(0, 4, "b;r0;c;");
        Check.dueBounds(x, "commit(0, 0) of none", () -> x.commit(0, 0));
        Check.dueBounds(x, "commitValue(0, 0) of none", () -> x.commitValue(0, 0, false));
        Check.steps(x, 0, 3);
        x.poke(1, 1);
        int[] none = {-1, 2, Integer.MAX_VALUE, Integer.MIN_VALUE};
        for (int commit : none) {
            Check.dueBounds(x, "commit(" + commit + ", 0)", () -> x.commit(commit, 0));
            Check.dueBounds(x, "commit(" + commit + ", 4)", () -> x.commit(commit, 4));
            Check.dueBounds(x, "commitValue(" + commit + ", 0)", () -> x.commitValue(commit, 0, true));
        }
        int[] what = {-1, 4, Integer.MAX_VALUE, Integer.MIN_VALUE};
        for (int w : what) {
            Check.dueIllegal(x, "commit(0, " + w + ")", () -> x.commit(0, w));
        }
        int[] noLine = {-1, 8, Integer.MAX_VALUE, Integer.MIN_VALUE};
        for (int line : noLine) {
            Check.dueBounds(x, "commitValue(1, " + line + ")", () -> x.commitValue(1, line, true));
        }
        x.undo();
        Check.dueBounds(x, "commit(1, 0) after undo", () -> x.commit(1, 0));
    }
}
