/** Promises 5 to 8: append, clearText, load, again. */
public final class ProgramTest {
    public static void main(String[] args) {
        append();
        clearText();
        loadTakesProgram();
        loadTellsSyntaxErrors();
        loadOfLongTexts();
        loadAfterAnError();
        loadRefuses();
        loadGivesNumberUp();
        again();
        againRefuses();
        Check.end();
    }

    private static void append() {
        SpeculativeCaches x = new SpeculativeCaches();
        Check.due("append(0)", x.append(0), 1);
        Check.due("append(127)", x.append(127), 2);
        Check.dueIllegal(x, "append(-1)", () -> x.append(-1));
        Check.dueIllegal(x, "append(128)", () -> x.append(128));
        for (int length = 3; length <= 120; length++) {
            Check.due("append to " + length, x.append('b'), length);
        }
        Check.dueState(x, "append to a full text", () -> x.append('b'));
        Check.dueIllegal(x, "append(128) to a full text", () -> x.append(128));
        Check.dueState(x, "undo of append", () -> x.undo());
        Check.due("the full text", x.clearText(), 120);
        Check.due("append to the emptied text", x.append('c'), 1);
    }

    private static void clearText() {
        SpeculativeCaches x = new SpeculativeCaches();
        Check.due("clearText of nothing", x.clearText(), 0);
        Check.type(x, "b;c;");
        x.load(0);
        Check.due("clearText", x.clearText(), 4);
        Check.due("clearText again", x.clearText(), 0);
        Check.due("the program stays", x.core(0, 2), 2);
        Check.due("undo is of load, not of clearText", x.undo(), 0);
        Check.due("undo does not bring the text back", x.clearText(), 0);
    }

    private static void loadTakesProgram() {
        SpeculativeCaches x = new SpeculativeCaches();
        Check.due("load of two", Check.load(x, 0, "a7;w3;"), 2);
        Check.due("load of the same text", x.load(1), 2);
        Check.due("the text stays", x.append(';'), 7);
        Check.steps(x, 0, 2);
        Check.due("position", x.core(0, 1), 2);
        Check.due("load anew", Check.load(x, 0, "a-5;a999;a-0;a07;a007;"), 5);
        Check.due("position after load", x.core(0, 1), 0);
        Check.due("accumulator after load", x.core(0, 0), 0);
        Check.due("the cache stays", x.state(0, 3), 2);
        x.step(0);
        Check.due("a-5", x.core(0, 0), -5);
        x.step(0);
        Check.due("a999", x.core(0, 0), 994);
        x.step(0);
        Check.due("a-0", x.core(0, 0), 994);
        x.step(0);
        Check.due("a07", x.core(0, 0), 1001);
        x.step(0);
        Check.due("a007", x.core(0, 0), 1008);
        Check.due("load of nothing", Check.load(x, 0, ""), 0);
        Check.due("no instructions", x.core(0, 2), 0);
        Check.due("undo of load", x.undo(), 3);
        Check.due("instructions after undo", x.core(0, 2), 5);
        Check.due("position after undo", x.core(0, 1), 5);
        Check.due("accumulator after undo", x.core(0, 0), 1008);
    }

    private static void loadTellsSyntaxErrors() {
        String[] texts = {"b", "x", ";", " b;", "b ;", "bb", "b;;", "B;", "c;c", "b;x", "r", "r;", "r8;", "r-1;",
            "r/;", "r0", "r00;", "r7;w8;", "w", "w9;", "w7", "w7 ;", "a", "a;", "a+1;", "a-", "a-;", "a--1;", "a1",
            "a1-;", "a12", "a123", "a1234;", "a-123", "a-1234;", "a1 ;", "a/;", "a:;", "a-/;", "b;c;r0;w1;a5"};
        int[] errors = {1, 0, 0, 0, 1, 1, 2, 0, 3, 2, 1, 1, 1, 1,
            1, 2, 2, 4, 1, 1, 2, 2, 1, 1, 1, 2, 2, 2, 2,
            2, 3, 4, 4, 5, 5, 2, 1, 1, 2, 12};
        for (int i = 0; i < texts.length; i++) {
            SpeculativeCaches x = Check.with(0, 4, "a1;b;c;");
            x.step(0);
            Check.type(x, texts[i]);
            long before = x.digest();
            Check.due("load of '" + texts[i] + "'", x.load(0), -10 - errors[i]);
            Check.due("digest after load of '" + texts[i] + "'", x.digest(), before);
            x.undo();
            Check.due("undo is of the step before", x.core(0, 1), 0);
        }
    }

    private static void loadOfLongTexts() {
        String thirty = "b;".repeat(30);
        dueLoad(thirty, 30);
        dueLoad(thirty + "c;", -10 - 60);
        dueLoad(thirty + "?", -10 - 60);
        dueLoad("a12;".repeat(30), 30);
        dueLoad("a-123;".repeat(20), 20);
        dueLoad("a-123;".repeat(19) + "a-1234", -10 - 119);
        dueLoad("b;c;" + "a123;".repeat(22) + "a-1234", -10 - 119);
        dueLoad("r1;w2;" + "a-123;".repeat(18) + "a-5;r0", -10 - 120);
        dueLoad("a123;".repeat(23) + "a-123", -10 - 120);
        dueLoad("\0", -10);
    }

    private static void dueLoad(String text, long want) {
        Check.due("load of '" + text + "'", Check.load(new SpeculativeCaches(), 1, text), want);
    }

    private static void loadAfterAnError() {
        SpeculativeCaches x = new SpeculativeCaches();
        Check.load(x, 0, "a9;c;");
        Check.due("an error", Check.load(x, 0, "b;a-5"), -15);
        Check.due("the program stays", x.core(0, 2), 2);
        Check.due("the rest of the text", Check.load(x, 1, "5;"), -10);
        Check.due("no error", Check.load(x, 0, "a5;"), 1);
        x.step(0);
        Check.due("it adds 5", x.core(0, 0), 5);
    }

    private static void loadRefuses() {
        SpeculativeCaches x = Check.with(0, 4, "b;c;", "b;c;");
        Check.dueBounds(x, "load(2) of 2", () -> x.load(2));
        Check.dueBounds(x, "load(-1)", () -> x.load(-1));
        Check.dueBounds(x, "load(max)", () -> x.load(Integer.MAX_VALUE));
        x.step(0);
        Check.dueState(x, "load into a transaction", () -> x.load(0));
        Check.type(x, "x");
        Check.dueState(x, "load of an error into a transaction", () -> x.load(0));
        Check.dueBounds(x, "load of an error into no core", () -> x.load(4));
        x.step(0);
        Check.due("load after the commit", Check.load(x, 0, "c;"), 1);
        x.begin(4, 0, 4);
        Check.due("load(3) of 4", x.load(3), 1);
    }

    private static void loadGivesNumberUp() {
        SpeculativeCaches x = Check.with(0, 4, "b;r0;c;", "b;c;");
        Check.steps(x, 0, 2);
        x.poke(0, 1);
        Check.due("aborted", x.core(0, 3), -1);
        x.step(0);
        Check.due("begun again", x.core(0, 3), 0);
        x.step(0);
        x.poke(0, 2);
        Check.load(x, 0, "b;c;");
        x.step(0);
        Check.due("a new number after load", x.core(0, 3), 1);
        Check.due("numbers", x.value(4), 2);
    }

    private static void again() {
        SpeculativeCaches x = Check.with(0, 4, "a4;");
        Check.due("again of no program", x.again(1), 0);
        x.step(0);
        Check.due("again", x.again(0), 1);
        Check.due("position", x.core(0, 1), 0);
        Check.due("the accumulator stays", x.core(0, 0), 4);
        Check.due("not finished", x.value(3), 1);
        x.step(0);
        Check.due("twice added", x.core(0, 0), 8);
        x.again(0);
        x.undo();
        Check.due("position after undo of again", x.core(0, 1), 1);
    }

    private static void againRefuses() {
        SpeculativeCaches x = Check.with(0, 4, "a4;a5;", "b;r0;");
        Check.dueState(x, "again of an unfinished core", () -> x.again(0));
        x.step(0);
        Check.dueState(x, "again in the middle", () -> x.again(0));
        Check.steps(x, 1, 2);
        Check.due("finished", x.core(1, 1), 2);
        Check.dueState(x, "again with a transaction", () -> x.again(1));
        Check.dueBounds(x, "again(2)", () -> x.again(2));
        Check.dueBounds(x, "again(-1)", () -> x.again(-1));
        Check.dueState(x, "step of a finished core with a transaction", () -> x.step(1));
        x.poke(0, 0);
        Check.due("aborted, not finished", x.core(1, 1), 0);
    }
}
