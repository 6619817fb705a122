/** Promises 26 and 27: undo and digest. */
public final class StateTest {
    public static void main(String[] args) {
        undoOfNothing();
        fourAtMost();
        everyUndoable();
        whatIsNotSaved();
        undoRestoresAll();
        undoThenOtherWay();
        undoRestoresWhatIsRemembered();
        undoRestoresFirstReads();
        undoRestoresTheLog();
        digestOfANewObject();
        digestLikeTheDocument();
        digestTellsApart();
        Check.end();
    }

    private static void undoOfNothing() {
        SpeculativeCaches x = new SpeculativeCaches();
        Check.dueState(x, "undo of nothing", () -> x.undo());
        x.seed(5);
        Check.due("undo", x.undo(), 0);
        Check.dueState(x, "undo of nothing more", () -> x.undo());
    }

    private static void fourAtMost() {
        SpeculativeCaches x = new SpeculativeCaches();
        for (int i = 2; i <= 8; i++) {
            x.seed(i);
        }
        for (int i = 3; i >= 0; i--) {
            Check.due("undo", x.undo(), i);
        }
        Check.dueState(x, "a fifth undo", () -> x.undo());
        Check.due("the oldest is dropped", x.seed(20), 4);
        x.seed(21);
        x.undo();
        x.seed(22);
        x.seed(23);
        x.seed(24);
        x.seed(25);
        Check.due("undo after mixed ones", x.undo(), 3);
        Check.due("the state before", x.seed(26), 24);
        Check.due("four again", Check.savedStates(x), 4);
    }

    private static void everyUndoable() {
        SpeculativeCaches x = Check.with(0, 4, "b;", "");
        x.begin(2, 0, 4);
        Check.load(x, 0, "b;c;");
        x.load(1);
        x.step(0);
        Check.due("four are saved", x.undo(), 3);
        Check.due("step is undone", x.core(0, 1), 0);
        Check.due("load is undone", x.undo() * 10 + x.core(1, 2), 20);
        Check.due("load is undone", x.undo() * 10 + x.core(0, 2), 10);
        x.run(0);
        Check.due("run(0) is saved", x.undo(), 1);
        x.setPolicy(0);
        Check.due("setPolicy of the same is saved", x.undo(), 1);
        x.seed(1);
        Check.due("seed of the same is saved", x.undo(), 1);
        x.poke(0, 0);
        Check.due("poke is saved", x.undo(), 1);
        x.again(0);
        Check.due("again of nothing is saved", x.undo(), 1);
        x.clearText();
        x.load(0);
        Check.due("load of nothing is saved", x.undo(), 1);
        x.begin(2, 0, 4);
        Check.due("begin is saved", x.undo(), 1);
    }

    private static void whatIsNotSaved() {
        SpeculativeCaches x = new SpeculativeCaches();
        x.append('b');
        x.load(0);
        x.clearText();
        x.finish(0);
        x.abortsWith(0, 10);
        x.bestPolicy();
        x.commits();
        x.serializable();
        x.digest();
        Check.dueState(x, "undo of calls that are not undoable", () -> x.undo());
        x.seed(2);
        Check.type(x, "b;c;b;");
        x.undo();
        Check.due("the text is not undone", x.clearText(), 6);
    }

    private static void undoRestoresAll() {
        String[] programs = {"b;r0;a1;w0;w1;r2;c;a9;w3;", "b;r1;a2;w1;w2;c;b;r0;w0;c;", "b;w4;r0;c;r1;"};
        SpeculativeCaches x = Check.with(2, 2, programs);
        x.seed(4711);
        for (int i = 0; i < 14; i++) {
            long full = digestOfRunning(x);
            long counted = x.digest();
            int saved = 4;
            x.run(i % 5);
            x.poke(i % 8, i);
            x.setPolicy(i % 3);
            Check.due("first undo", x.undo(), saved - 1);
            Check.due("second undo", x.undo(), saved - 2);
            Check.due("third undo", x.undo(), saved - 3);
            Check.due("digest after three undos", x.digest(), counted - 3);
            Check.due("what follows after three undos", digestOfRunning(x), full);
            x.run(1);
            x.run(0);
            x.run(0);
            x.run(0);
        }
    }

    /** What follows tells what digest() does not: remembered positions, kept numbers, first reads. */
    private static long digestOfRunning(SpeculativeCaches x) {
        long h = 1;
        for (int policy = 0; policy < 3; policy++) {
            h = 31 * h + x.finish(policy);
            h = 31 * h + x.abortsWith(policy, 13);
        }
        return h;
    }

    private static void undoThenOtherWay() {
        SpeculativeCaches x = Check.with(0, 4, "b;r0;c;", "b;r1;c;");
        x.step(0);
        x.step(0);
        x.poke(0, 3);
        x.undo();
        x.step(0);
        Check.due("the commit of the read before", x.commits(), 1);
        Check.due("its read", x.commitValue(0, 0, false), 0);
        Check.due("its core", x.commit(0, 0), 0);
        x.undo();
        x.poke(0, 4);
        Check.due("the other way is logged", x.commit(0, 0), -1);
        x.step(0);
        Check.due("the number is kept through undo", x.core(0, 3), 0);
        x.undo();
        x.undo();
        Check.due("the transaction is back", x.set(0, false), 1);
        x.step(0);
        Check.due("it commits", x.core(0, 4), 1);
    }

    private static void undoRestoresWhatIsRemembered() {
        SpeculativeCaches x = Check.with(0, 4, "a3;b;r0;c;a4;b;r0;c;");
        Check.steps(x, 0, 3);
        x.step(0);
        x.step(0);
        x.step(0);
        for (int i = 2; i >= 0; i--) {
            Check.due("undo", x.undo(), i + 1);
        }
        Check.due("abort", x.poke(0, 5), 1);
        Check.due("the remembered position", x.core(0, 1), 1);
        Check.due("the remembered accumulator", x.core(0, 0), 3);
    }

    private static void undoRestoresFirstReads() {
        SpeculativeCaches x = Check.with(0, 4, "b;r0;c;b;r1;c;");
        x.poke(0, 5);
        Check.steps(x, 0, 2);
        Check.steps(x, 0, 3);
        x.undo();
        x.undo();
        x.undo();
        x.step(0);
        Check.due("the first reads", x.commit(1, 2), 1);
        Check.due("the value", x.commitValue(1, 0, false), 5);
    }

    private static void undoRestoresTheLog() {
        SpeculativeCaches x = Check.with(0, 4, "b;r0;w1;c;");
        x.poke(0, 5);
        Check.steps(x, 0, 4);
        x.begin(3, 0, 4);
        x.poke(2, 1);
        x.poke(3, 2);
        x.poke(4, 3);
        for (int i = 3; i >= 0; i--) {
            Check.due("undo", x.undo(), i);
        }
        long[] due = {0, 0, 1, 2};
        for (int what = 0; what < 4; what++) {
            Check.due("commit(1, " + what + ")", x.commit(1, what), due[what]);
        }
        Check.due("its read", x.commitValue(1, 0, false), 5);
        Check.due("its written value", x.commitValue(1, 1, true), 5);
        Check.due("the poke before", x.commit(0, 0) * 100 + x.commitValue(0, 0, true), -95);
    }

    private static void digestOfANewObject() {
        SpeculativeCaches x = new SpeculativeCaches();
        Check.due("digest of a new object", x.digest(), Check.digestByWords(x, 0, 1, 0));
        x.append(7);
        Check.due("digest with a text", x.digest(), Check.digestByWords(x, 1, 1, 0));
        x.seed(999999);
        Check.due("digest with a saved state", x.digest(), Check.digestByWords(x, 1, 999999, 1));
    }

    /** A new object each time: the words' own digest takes some hundred of its promised calls. */
    private static void digestLikeTheDocument() {
        int s = 100;
        for (int steps = 1; steps <= 12; steps++) {
            SpeculativeCaches x = Check.with(1, 3, "b;r0;a-1;w1;w0;c;a5;w6;", "b;r1;w2;c;", "b;w5;r5;r6;c;r1;");
            x.poke(0, Integer.MIN_VALUE);
            x.seed(100);
            x.run(steps);
            s = (int) ((1103515245L * s + 12345) % 2147483648L);
            Check.due("digest after " + steps + " steps", x.digest(), Check.digestByWords(x, 16, s, 4));
        }
    }

    private static void digestTellsApart() {
        SpeculativeCaches x = Check.with(0, 4, "b;r0;c;", "w0;");
        long before = x.digest();
        x.append('b');
        long typed = x.digest();
        Check.due("a byte changes it", typed == before, false);
        x.step(0);
        long stepped = x.digest();
        Check.due("a step changes it", stepped == typed, false);
        x.undo();
        Check.due("undo brings it back", x.digest(), typed);
        x.seed(1);
        Check.due("the same as before the step, with one more saved", x.digest(), typed + 1);
    }
}
