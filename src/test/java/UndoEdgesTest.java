import java.util.function.Consumer;

/** Boundary cases of "Undo", "Exceptions" and promises 26 and 27: one method a sentence, which it quotes. */
public final class UndoEdgesTest {
    private static final Class<IllegalArgumentException> ILLEGAL = IllegalArgumentException.class;
    private static final Class<IndexOutOfBoundsException> BOUNDS = IndexOutOfBoundsException.class;

    public static void main(String[] args) {
        callsThatChangeNothingAreSaved();
        pokeThatChangesNothingIsSaved();
        eachUndoableCallSavesOne();
        refusedCallsSaveNothing();
        otherCallsSaveNothing();
        atMostFour();
        oldestIsDroppedFirst();
        roomAfterUndo();
        textIsNotRestored();
        settingsAreRestored();
        programsAreRestored();
        transactionsAreRestored();
        keptNumberIsRestored();
        cachesAreRestored();
        valuesWrittenOverAreRestored();
        firstReadsAreRestored();
        countsOfCoresAreRestored();
        memoryAndLogAreRestored();
        undoReturnsWhatRemains();
        undoOfNothing();
        refusedCallsChangeNothing();
        firstListedException();
        digestOfNewObjects();
        digestOverflows();
        digestHasTheReadSetFirst();
        digestHasEachStateBeforeItsValue();
        digestHasNotCommittedFirst();
        digestOfABusyObject();
        digestOfEachPart();
        Check.end();
    }

    /** The same call again and again: one saved state each, up to four. */
    private static void dueSaving(String call, SpeculativeCaches x, Check.Call what) {
        long before = x.digest();
        for (int saved = 1; saved <= 4; saved++) {
            what.answer();
            Check.due("digest after " + saved + " " + call, x.digest(), before + saved);
        }
        what.answer();
        Check.due("digest after 5 " + call, x.digest(), before + 4);
        Check.due("saved states of " + call, Check.savedStates(x), 4);
    }

    private static void callsThatChangeNothingAreSaved() {
        Check.sentence("saves the state from before the call, even if the call changes nothing");
        SpeculativeCaches a = new SpeculativeCaches();
        dueSaving("begin", a, () -> a.begin(2, 0, 4));
        SpeculativeCaches b = new SpeculativeCaches();
        dueSaving("setPolicy", b, () -> b.setPolicy(0));
        SpeculativeCaches c = new SpeculativeCaches();
        dueSaving("seed", c, () -> c.seed(1));
        SpeculativeCaches d = new SpeculativeCaches();
        dueSaving("load", d, () -> d.load(1));
        SpeculativeCaches e = new SpeculativeCaches();
        dueSaving("again", e, () -> e.again(1));
        SpeculativeCaches f = new SpeculativeCaches();
        dueSaving("run(0)", f, () -> f.run(0));
        SpeculativeCaches g = new SpeculativeCaches();
        dueSaving("run(1000)", g, () -> g.run(1000));
    }

    private static void pokeThatChangesNothingIsSaved() {
        Check.sentence("even if the call changes nothing", "a poke of the same value into a full log");
        SpeculativeCaches x = new SpeculativeCaches();
        for (int i = 0; i < 401; i++) {
            x.poke(3, 5);
        }
        Check.due("undo", x.undo(), 3);
        long before = x.digest();
        x.poke(3, 5);
        Check.due("digest, one saved state more", x.digest(), before + 1);
    }

    /** The call is made on a new object with a text: undo takes it back to that. */
    private static void dueOneSaved(String call, Consumer<SpeculativeCaches> what) {
        SpeculativeCaches x = new SpeculativeCaches();
        Check.type(x, "a1;");
        what.accept(x);
        Check.due("saved states after " + call, Check.savedStates(x), 1);
        Check.due("the state before " + call, x.digest(), digestOfNew(2, 3));
    }

    private static void eachUndoableCallSavesOne() {
        Check.sentence("Each successful call of a method whose description says \"undoable\" saves the state from "
                + "before the call");
        dueOneSaved("begin", x -> x.begin(3, 1, 1));
        dueOneSaved("setPolicy", x -> x.setPolicy(1));
        dueOneSaved("seed", x -> x.seed(9));
        dueOneSaved("load", x -> x.load(0));
        dueOneSaved("again", x -> x.again(0));
        dueOneSaved("run", x -> x.run(1));
        dueOneSaved("poke", x -> x.poke(1, 1));
        SpeculativeCaches x = new SpeculativeCaches();
        Check.load(x, 1, "a1;");
        x.step(1);
        Check.due("undo of step", x.undo(), 1);
        Check.due("position before it", x.core(1, 1), 0);
    }

    private static void refusedCallsSaveNothing() {
        Check.sentence("Each successful call", "a refused one saves nothing");
        SpeculativeCaches x = new SpeculativeCaches();
        Check.dueIllegal(x, "begin", () -> x.begin(1, 0, 4));
        Check.dueIllegal(x, "setPolicy", () -> x.setPolicy(3));
        Check.dueIllegal(x, "seed", () -> x.seed(-1));
        Check.dueBounds(x, "load", () -> x.load(2));
        Check.dueBounds(x, "again", () -> x.again(2));
        Check.dueState(x, "step", () -> x.step(0));
        Check.dueIllegal(x, "run", () -> x.run(1001));
        Check.dueBounds(x, "poke", () -> x.poke(8, 0));
        x.append('x');
        Check.due("load of an error", x.load(0), -10);
        Check.due("saved states", Check.savedStates(x), 0);
    }

    private static void otherCallsSaveNothing() {
        Check.sentence("a method whose description says \"undoable\"", "the others save nothing");
        SpeculativeCaches x = new SpeculativeCaches();
        x.append('b');
        x.clearText();
        x.state(0, 0);
        x.cached(0, 0);
        x.memory(0, true);
        x.set(0, true);
        x.core(0, 0);
        x.value(0);
        x.counter(0);
        x.commits();
        x.serializable();
        x.finish(0);
        x.abortsWith(0, 9);
        x.bestPolicy();
        x.digest();
        Check.dueState(x, "undo", () -> x.undo());
        x.poke(0, 1);
        x.commit(0, 0);
        x.commitValue(0, 0, true);
        x.undo();
        Check.dueState(x, "undo after an undo", () -> x.undo());
    }

    private static void atMostFour() {
        Check.sentence("at most 4 states are saved");
        for (int calls = 0; calls <= 9; calls++) {
            SpeculativeCaches x = new SpeculativeCaches();
            for (int i = 0; i < calls; i++) {
                x.seed(100 + i);
            }
            Check.due("saved states of " + calls + " calls", Check.savedStates(x), Math.min(4, calls));
        }
    }

    private static void oldestIsDroppedFirst() {
        Check.sentence("and the oldest is dropped first");
        for (int calls = 4; calls <= 9; calls++) {
            SpeculativeCaches x = new SpeculativeCaches();
            for (int i = 1; i <= calls; i++) {
                x.poke(0, i);
            }
            for (int left = 3; left >= 0; left--) {
                Check.due("undo", x.undo(), left);
                Check.due("the state before", x.memory(0, false), calls - 4 + left);
            }
        }
    }

    private static void roomAfterUndo() {
        Check.sentence("at most 4 states are saved, and the oldest is dropped first", "after some were undone");
        SpeculativeCaches x = new SpeculativeCaches();
        for (int i = 1; i <= 6; i++) {
            x.poke(0, i);
        }
        x.undo();
        x.undo();
        for (int i = 11; i <= 13; i++) {
            x.poke(0, i);
        }
        int[] due = {12, 11, 4, 3};
        for (int i = 0; i < 4; i++) {
            Check.due("undo", x.undo(), 3 - i);
            Check.due("the state before", x.memory(0, false), due[i]);
        }
        Check.dueState(x, "a fifth undo", () -> x.undo());
    }

    private static void textIsNotRestored() {
        Check.sentence("The saved state contains everything except the program text.");
        SpeculativeCaches x = new SpeculativeCaches();
        Check.type(x, "a5;");
        x.load(0);
        Check.type(x, "a6;a7;");
        x.undo();
        Check.due("the program is restored", x.core(0, 2), 0);
        Check.due("the text is not", x.load(0), 2);
        x.clearText();
        x.undo();
        Check.due("nor is it after clearText", x.clearText(), 0);
    }

    private static void settingsAreRestored() {
        Check.sentence("The saved state contains everything", "the settings");
        SpeculativeCaches x = new SpeculativeCaches();
        x.begin(3, 2, 7);
        x.seed(77);
        x.begin(2, 1, 1);
        x.seed(88);
        x.undo();
        x.undo();
        int[] due = {3, 2, 7, 3, 0};
        for (int what = 0; what < 5; what++) {
            Check.due("value(" + what + ")", x.value(what), due[what]);
        }
        Check.due("the last core is there again", x.state(2, 7), 0);
        Check.due("s", x.seed(0), 77);
    }

    private static void programsAreRestored() {
        Check.sentence("The saved state contains everything", "the programs");
        SpeculativeCaches x = Check.with(0, 4, "a5;w3;a-6;", "a1;");
        Check.steps(x, 0, 2);
        Check.load(x, 0, "r1;r1;r1;r1;");
        x.step(0);
        x.undo();
        x.undo();
        Check.due("instructions", x.core(0, 2), 3);
        Check.due("position", x.core(0, 1), 2);
        Check.due("accumulator", x.core(0, 0), 5);
        x.step(0);
        Check.due("the third instruction", x.core(0, 0), -1);
        x.again(0);
        Check.steps(x, 0, 2);
        Check.due("the second one", x.cached(0, 3), 4);
    }

    private static void transactionsAreRestored() {
        Check.sentence("The saved state contains everything", "the transactions");
        SpeculativeCaches x = Check.with(0, 4, "a3;b;r0;a1;w1;c;a9;b;r2;c;");
        x.poke(0, 40);
        Check.steps(x, 0, 5);
        Check.steps(x, 0, 4);
        for (int i = 0; i < 4; i++) {
            x.undo();
        }
        Check.due("number", x.core(0, 3), 0);
        Check.due("sets", x.set(0, false) * 10 + x.set(0, true), 12);
        x.step(0);
        Check.due("first reads", x.commit(1, 2), 1);
        Check.due("first read", x.commitValue(1, 0, false), 40);
        Check.due("final value", x.commitValue(1, 1, true), 41);
        x.undo();
        Check.due("poke", x.poke(0, 1), 1);
        Check.due("the remembered position", x.core(0, 1), 1);
        Check.due("the remembered accumulator", x.core(0, 0), 3);
        Check.due("the written line", x.state(0, 1), 0);
    }

    private static void keptNumberIsRestored() {
        Check.sentence("The saved state contains everything", "the number that is kept");
        SpeculativeCaches x = Check.with(0, 4, "b;r0;c;", "b;c;");
        Check.steps(x, 0, 2);
        x.poke(0, 1);
        x.load(0);
        x.step(0);
        Check.due("a new one", x.core(0, 3), 1);
        x.undo();
        x.undo();
        x.step(1);
        Check.due("that of the other core", x.core(1, 3), 1);
        x.step(0);
        Check.due("the kept one", x.core(0, 3), 0);
        x.undo();
        x.undo();
        x.undo();
        Check.due("before the abort", x.core(0, 3), 0);
        Check.due("read set before the abort", x.set(0, false), 1);
    }

    private static void cachesAreRestored() {
        Check.sentence("The saved state contains everything", "the caches");
        SpeculativeCaches x = Check.with(0, 4, "a5;w0;r1;", "a6;w0;w1;");
        x.poke(1, 9);
        Check.steps(x, 0, 3);
        long before = x.digest();
        Check.steps(x, 1, 3);
        Check.due("states", x.state(0, 0) * 10 + x.state(0, 1), 0);
        for (int i = 0; i < 3; i++) {
            x.undo();
        }
        Check.due("states", x.state(0, 0) * 10 + x.state(0, 1), 21);
        Check.due("values", x.cached(0, 0) * 10 + x.cached(0, 1), 59);
        Check.due("states of the other", x.state(1, 0) + x.state(1, 1), 0);
        Check.due("digest, three saved states less", x.digest(), before - 3);
    }

    private static void valuesWrittenOverAreRestored() {
        Check.sentence("The saved state contains everything", "values in a cache that were written over");
        SpeculativeCaches x = Check.with(0, 4, "a5;w0;a1;w0;b;a1;w0;");
        Check.steps(x, 0, 4);
        Check.due("written over", x.cached(0, 0), 6);
        Check.steps(x, 0, 3);
        Check.due("and in a transaction", x.cached(0, 0), 7);
        x.undo();
        Check.due("undo of the third write", x.cached(0, 0), 6);
        x.undo();
        x.undo();
        x.undo();
        Check.due("undo of the second write", x.cached(0, 0), 5);
        Check.due("the accumulator", x.core(0, 0), 6);
    }

    private static void firstReadsAreRestored() {
        Check.sentence("The saved state contains everything", "the values of the first reads");
        SpeculativeCaches x = Check.with(0, 4, "b;r0;c;");
        x.poke(0, 5);
        Check.steps(x, 0, 2);
        x.poke(0, 6);
        Check.steps(x, 0, 2);
        x.undo();
        x.undo();
        x.undo();
        x.step(0);
        Check.due("the first read", x.commitValue(1, 0, false), 5);
    }

    private static void countsOfCoresAreRestored() {
        Check.sentence("The saved state contains everything", "the commits and the aborts of the cores");
        SpeculativeCaches x = Check.with(0, 1, "b;c;b;w0;w1;");
        Check.steps(x, 0, 5);
        Check.due("one of each", x.core(0, 4) * 10 + x.core(0, 5), 11);
        x.undo();
        Check.due("before the abort", x.core(0, 4) * 10 + x.core(0, 5), 10);
        Check.due("its counter", x.counter(6), 0);
        x.undo();
        x.undo();
        x.undo();
        Check.due("before the commit", x.core(0, 4) * 10 + x.core(0, 5), 0);
    }

    private static void memoryAndLogAreRestored() {
        Check.sentence("The saved state contains everything", "the memory, the counters and the log");
        SpeculativeCaches x = Check.with(0, 4, "b;r0;w1;c;");
        x.poke(0, 5);
        Check.steps(x, 0, 4);
        x.begin(4, 0, 4);
        x.poke(2, 7);
        x.poke(3, 8);
        for (int i = 0; i < 3; i++) {
            x.undo();
        }
        Check.due("memory", x.memory(0, false) * 10 + x.memory(2, false), 50);
        long[] due = {1, 1, 0, 0, 0, 0, 0, 4};
        for (int what = 0; what < 8; what++) {
            Check.due("counter(" + what + ")", x.counter(what), due[what]);
        }
        Check.due("commits", x.commits(), 2);
        Check.due("core and transaction", x.commit(1, 0) * 10 + x.commit(1, 1), 0);
        Check.due("sets", x.commit(1, 2) * 10 + x.commit(1, 3), 12);
        Check.due("values", x.commitValue(1, 0, false) * 10 + x.commitValue(1, 1, true), 55);
        Check.due("commits of the core", x.core(0, 4), 1);
    }

    private static void undoReturnsWhatRemains() {
        Check.sentence("Restores the most recently saved state and removes it from the saved states. Returns the "
                + "number of saved states that remain.");
        SpeculativeCaches x = new SpeculativeCaches();
        x.seed(10);
        x.seed(20);
        Check.due("undo", x.undo(), 1);
        Check.due("seed", x.seed(30), 10);
        Check.due("undo", x.undo(), 1);
        Check.due("undo", x.undo(), 0);
        Check.due("seed", x.seed(0), 1);
    }

    private static void undoOfNothing() {
        Check.sentence("Throws IllegalStateException if there is no saved state");
        SpeculativeCaches x = new SpeculativeCaches();
        Check.dueState(x, "undo of a new object", () -> x.undo());
        x.run(5);
        x.undo();
        Check.dueState(x, "undo of no more", () -> x.undo());
        Check.dueState(x, "undo once more", () -> x.undo());
        Check.due("digest", x.digest(), digestOfNew(2, 0));
    }

    private static void refusedCallsChangeNothing() {
        Check.sentence("A call that throws an exception changes nothing.");
        SpeculativeCaches x = Check.busy();
        Check.dueIllegal(x, "begin", () -> x.begin(2, 0, 9));
        Check.dueIllegal(x, "setPolicy", () -> x.setPolicy(3));
        Check.dueIllegal(x, "seed", () -> x.seed(1000000));
        Check.dueIllegal(x, "append", () -> x.append(128));
        Check.dueState(x, "load", () -> x.load(0));
        Check.dueBounds(x, "load", () -> x.load(3));
        Check.dueState(x, "again", () -> x.again(2));
        Check.dueBounds(x, "step", () -> x.step(3));
        Check.dueIllegal(x, "run", () -> x.run(1001));
        Check.dueBounds(x, "poke", () -> x.poke(8, 1));
        Check.dueIllegal(x, "finish", () -> x.finish(3));
        Check.dueIllegal(x, "abortsWith", () -> x.abortsWith(0, 1001));
        SpeculativeCaches y = Check.busy();
        Check.due("digest", x.digest(), y.digest());
        x.run(20);
        y.run(20);
        Check.due("digest of what follows", x.digest(), y.digest());
    }

    private static void firstListedException() {
        Check.sentence("If several exceptions apply, the one that is listed first is thrown.");
        SpeculativeCaches x = Check.busy();
        Check.type(x, "b".repeat(120));
        Check.dueThrowOutside(x, ILLEGAL, "append to a full text", 0, 127, value -> x.append(value));
        Check.dueThrowOutside(x, BOUNDS, "core(core, 6)", 0, 2, core -> x.core(core, 6));
        Check.dueThrowOutside(x, BOUNDS, "core(core, -1)", 0, 2, core -> x.core(core, -1));
        Check.dueThrowOutside(x, BOUNDS, "commit(commit, 4)", 0, 1, commit -> x.commit(commit, 4));
        Check.dueThrowOutside(x, BOUNDS, "commit(commit, -1)", 0, 1, commit -> x.commit(commit, -1));
        Check.dueState(x, "load of an error into a transaction", () -> x.load(0));
    }

    /** The digest of a new object with this many cores and this long a text, by the words of promise 27. */
    private static long digestOfNew(int cores, int length) {
        long h = 31L * 3011 + length;
        long[] values = {cores, 0, 4, cores, 0, 1};
        for (long v : values) {
            h = 31 * h + v;
        }
        for (int core = 0; core < cores; core++) {
            for (int what = 0; what < 6 + 2 + 16; what++) {
                h = 31 * h + (what == 3 ? -1 : 0);
            }
        }
        for (int i = 0; i < 16 + 8 + 2; i++) {
            h = 31 * h;
        }
        return h;
    }

    private static void digestOfNewObjects() {
        Check.sentence("Returns a hash of the state. Start with h = 3011");
        SpeculativeCaches x = new SpeculativeCaches();
        Check.due("digest of a new object", x.digest(), digestOfNew(2, 0));
        for (int length = 1; length <= 120; length++) {
            x.append(127);
            Check.due("digest with " + length + " bytes", x.digest(), digestOfNew(2, length));
        }
        for (int cores = 3; cores <= 4; cores++) {
            SpeculativeCaches y = new SpeculativeCaches();
            y.begin(cores, 0, 4);
            Check.due("digest with " + cores + " cores and a saved state", y.digest(), digestOfNew(cores, 0) + 1);
        }
    }

    private static void digestOverflows() {
        Check.sentence("Returns the hash, with the overflow of long arithmetic ignored.");
        SpeculativeCaches x = new SpeculativeCaches();
        long h = digestOfNew(2, 0);
        x.poke(7, Integer.MIN_VALUE);
        x.undo();
        Check.due("digest after undo", x.digest(), h);
        x.poke(7, -1);
        // The last values: memory(7, false), eight committed ones, eight counters, commits(), the saved states.
        long more = -1;
        for (int i = 0; i < 18; i++) {
            more = 31 * more + (i == 7 ? -1 : i >= 16 ? 1 : 0);
        }
        Check.due("digest after a poke of -1", x.digest(), h + more);
    }

    private static void digestHasTheReadSetFirst() {
        Check.sentence("both sets (the read set first)");
        SpeculativeCaches x = Check.with(0, 4, "", "b;r0;w1;");
        Check.steps(x, 1, 3);
        Check.due("the sets", x.set(1, false) * 10 + x.set(1, true), 12);
        Check.due("digest", x.digest(), Check.digestByWords(x, 8, 1, 4));
    }

    private static void digestHasEachStateBeforeItsValue() {
        Check.sentence("and for each line its state and cached()");
        SpeculativeCaches x = Check.with(0, 4, "a5;w0;w7;r1;", "r3;");
        x.poke(3, -3);
        Check.steps(x, 0, 4);
        x.step(1);
        Check.due("a state and its value", x.state(0, 0) * 10 + x.cached(0, 0), 25);
        Check.due("digest", x.digest(), Check.digestByWords(x, 3, 1, 4));
    }

    private static void digestHasNotCommittedFirst() {
        Check.sentence("memory() of all lines, first not committed, then committed");
        SpeculativeCaches x = Check.with(0, 4, "a1;w0;a1;w7;");
        Check.steps(x, 0, 4);
        Check.due("memory", x.memory(0, false) + x.memory(7, false), 0);
        Check.due("committed", x.memory(0, true) * 10 + x.memory(7, true), 12);
        Check.due("digest", x.digest(), Check.digestByWords(x, 12, 1, 4));
    }

    private static void digestOfABusyObject() {
        Check.sentence("Returns a hash of the state.", "cores in all states");
        SpeculativeCaches x = Check.busy();
        Check.due("digest", x.digest(), Check.digestByWords(x, 10, 1, 3));
        x.seed(5);
        Check.due("digest after seed", x.digest(), Check.digestByWords(x, 10, 5, 4));
        x.undo();
        x.undo();
        Check.due("digest after two undos", x.digest(), Check.digestByWords(x, 10, 1, 2));
    }

    private static void digestOfEachPart() {
        Check.sentence("for each of the following values v, set h = 31 * h + v");
        SpeculativeCaches x = Check.with(0, 4, "b;", "");
        for (int i = 0; i < 4; i++) {
            x.run(0);
        }
        long before = x.digest();
        x.seed(2);
        // Behind s: 24 values of each of the two cores, 16 of the memory, 8 counters, commits() and the saved states.
        long power = 1;
        for (int i = 0; i < 2 * 24 + 16 + 8 + 2; i++) {
            power *= 31;
        }
        Check.due("one more in s", x.digest(), before + power);
        x.seed(1);
        x.setPolicy(1);
        Check.due("one more in the policy", x.digest(), before + power * 31 * 31 * 31 * 31);
    }
}
