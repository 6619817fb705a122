/** Boundary cases of "Program text" and promises 5 to 8: one method a sentence of the document, which it quotes. */
public final class TextEdgesTest {
    private static final Class<IndexOutOfBoundsException> BOUNDS = IndexOutOfBoundsException.class;
    private static final String DIGITS = "0123456789";

    public static void main(String[] args) {
        textOf120Bytes();
        fullTextOfInstructions();
        eachByteAfterEachStart();
        eachLineDigit();
        numbersOfOneToThreeDigits();
        noSpaces();
        noInstructions();
        fourthDigit();
        thirtyFirstInstruction();
        textEndsTooEarly();
        firstOfSeveralErrors();
        appendLeastAndMost();
        appendRefused();
        appendToFullText();
        clearTextReturnsLength();
        loadTakesPositionAndAccumulatorBack();
        loadGivesNumberUp();
        loadKeepsText();
        loadOfAnErrorChangesNothing();
        loadOfNoCore();
        loadIntoATransaction();
        againOfAFinishedCore();
        againOfNoInstructions();
        againKeepsAccumulator();
        againOfNoCore();
        againOfAnUnfinishedCore();
        againWithATransaction();
        Check.end();
    }

    private static long loaded(String text) {
        return Check.load(new SpeculativeCaches(), 0, text);
    }

    private static void dueLoad(String text, long want) {
        Check.due("load of '" + text + "'", loaded(text), want);
    }

    private static void textOf120Bytes() {
        Check.sentence("The text has at most 120 bytes");
        SpeculativeCaches x = new SpeculativeCaches();
        for (int length = 1; length <= 120; length++) {
            Check.due("append", x.append('b'), length);
        }
        Check.dueState(x, "a 121st byte", () -> x.append('b'));
        Check.due("the length", x.clearText(), 120);
    }

    private static void fullTextOfInstructions() {
        Check.sentence("The text has at most 120 bytes: a sequence of instructions");
        dueLoad("a12;".repeat(30), 30);
        dueLoad("a123;".repeat(24), 24);
        dueLoad("a-123;".repeat(20), 20);
        dueLoad("a-123;".repeat(19) + "a-1234", -10 - 119);
        dueLoad("a-123;".repeat(19) + "a-123 ", -10 - 119);
    }

    /** Each of the 128 bytes behind the start of a text: it stands there, or it is the error. */
    private static void eachByteAfterEachStart() {
        Check.sentence("The syntax error position is the index of the first byte that cannot stand where it stands");
        String[] starts = {"", "b", "c", "r", "r0", "w", "w7", "a", "a-", "a1", "a12", "a123", "a-1", "a-12", "a-123",
            "b;", "a-5;"};
        String[] standing = {"abcrw", ";", ";", "01234567", ";", "01234567", ";", "-" + DIGITS, DIGITS, DIGITS + ";",
            DIGITS + ";", ";", DIGITS + ";", DIGITS + ";", ";", "abcrw", "abcrw"};
        for (int i = 0; i < starts.length; i++) {
            for (int sign = 0; sign < 128; sign++) {
                boolean stands = standing[i].indexOf(sign) >= 0;
                long want = !stands ? -10 - starts[i].length() : sign == ';' ? 1 : -10 - (starts[i].length() + 1);
                Check.due("byte " + sign + " after '" + starts[i] + "'", loaded(starts[i] + (char) sign), want);
            }
        }
    }

    private static void eachLineDigit() {
        Check.sentence("\"r\" and a line digit 0 to 7, \"w\" and a line digit");
        for (int line = 0; line < 8; line++) {
            SpeculativeCaches x = Check.with(0, 4, "a9;w" + line + ";", "r" + line + ";");
            Check.steps(x, 0, 2);
            x.step(1);
            Check.due("written line " + line, x.memory(line, true), 9);
            Check.due("read line " + line, x.core(1, 0), 9);
        }
        dueLoad("r8;", -11);
        dueLoad("w8;", -11);
        dueLoad("r-1;", -11);
        dueLoad("r10;", -12);
    }

    private static void numbersOfOneToThreeDigits() {
        Check.sentence("\"a\" and a number, an optional minus sign and one to three digits");
        String[] texts = {"0", "9", "10", "99", "100", "999", "-0", "-9", "-10", "-99", "-100", "-999", "00", "000",
            "007", "-007", "-000", "090"};
        int[] due = {0, 9, 10, 99, 100, 999, 0, -9, -10, -99, -100, -999, 0, 0, 7, -7, 0, 90};
        for (int i = 0; i < texts.length; i++) {
            SpeculativeCaches x = Check.with(0, 4, "a" + texts[i] + ";");
            x.step(0);
            Check.due("a" + texts[i], x.core(0, 0), due[i]);
        }
        dueLoad("a;", -11);
        dueLoad("a-;", -12);
    }

    private static void noSpaces() {
        Check.sentence("There are no spaces");
        dueLoad(" ", -10);
        dueLoad("b; c;", -12);
        dueLoad("b ;", -11);
        dueLoad("r 1;", -11);
        dueLoad("a 1;", -11);
        dueLoad("a- 1;", -12);
        dueLoad("b; ", -12);
    }

    private static void noInstructions() {
        Check.sentence("there can be no instructions");
        SpeculativeCaches x = Check.with(0, 4, "a1;");
        x.clearText();
        Check.due("load of nothing", x.load(0), 0);
        Check.due("instructions", x.core(0, 2), 0);
        Check.due("finished", x.value(3), 2);
    }

    private static void fourthDigit() {
        Check.sentence("(a fourth digit");
        dueLoad("a1234;", -14);
        dueLoad("a0000;", -14);
        dueLoad("a-1234;", -15);
        dueLoad("a1234", -14);
        dueLoad("b;a9999", -16);
    }

    private static void thirtyFirstInstruction() {
        Check.sentence("and the first byte of a 31st instruction, too)");
        String thirty = "b;c;a1;".repeat(10);
        dueLoad(thirty, 30);
        String[] more = {"b;", "c;", "r0;", "w0;", "a1;", "b", ";", "x"};
        for (String next : more) {
            dueLoad(thirty + next, -10 - 70);
        }
        dueLoad("a123;".repeat(10) + "b;".repeat(20) + "b;", -10 - 90);
        dueLoad("b;".repeat(29) + "x;", -10 - 58);
    }

    private static void textEndsTooEarly() {
        Check.sentence("or the length of the text if the text ends too early");
        String[] starts = {"b", "c", "r", "r0", "w", "w0", "a", "a-", "a1", "a12", "a123", "a-1", "a-12", "a-123"};
        for (String start : starts) {
            dueLoad(start, -10 - start.length());
            dueLoad("b;" + start, -12 - start.length());
        }
        dueLoad("b;".repeat(29) + "c", -10 - 59);
        dueLoad("a123;".repeat(23) + "a-123", -10 - 120);
        dueLoad("a12;".repeat(29) + "a123", -10 - 120);
    }

    private static void firstOfSeveralErrors() {
        Check.sentence("the first byte that cannot stand where it stands");
        dueLoad("b;x;y;", -12);
        dueLoad("r9;a1234;", -11);
        dueLoad("xa", -10);
        dueLoad("b;".repeat(31) + "?", -10 - 60);
    }

    private static void appendLeastAndMost() {
        Check.sentence("value: the byte, 0 to 127");
        SpeculativeCaches x = new SpeculativeCaches();
        Check.due("append(0)", x.append(0), 1);
        Check.due("append(127)", x.append(127), 2);
    }

    private static void appendRefused() {
        Check.sentence("Throws IllegalArgumentException if value is out of range");
        SpeculativeCaches x = Check.busy();
        Check.dueThrowOutside(x, IllegalArgumentException.class, "append", 0, 127, value -> x.append(value));
        Check.due("the text stays", x.clearText(), 10);
    }

    private static void appendToFullText() {
        Check.sentence("Throws IllegalStateException if the text has 120 bytes");
        SpeculativeCaches x = new SpeculativeCaches();
        Check.type(x, "a-12;".repeat(24));
        Check.dueState(x, "append", () -> x.append(0));
        Check.dueThrowOutside(x, IllegalArgumentException.class, "append", 0, 127, value -> x.append(value));
        Check.due("the text is still a program", x.load(0), 24);
        x.clearText();
        Check.due("append to the emptied text", x.append('b'), 1);
    }

    private static void clearTextReturnsLength() {
        Check.sentence("Empties the program text. Returns the length that it had.");
        SpeculativeCaches x = new SpeculativeCaches();
        Check.due("clearText of nothing", x.clearText(), 0);
        x.append('b');
        Check.due("clearText of one", x.clearText(), 1);
        Check.type(x, "b".repeat(120));
        Check.due("clearText of 120", x.clearText(), 120);
        Check.due("clearText again", x.clearText(), 0);
        Check.due("load of the emptied text", x.load(0), 0);
    }

    private static void loadTakesPositionAndAccumulatorBack() {
        Check.sentence("its position and its accumulator become 0");
        SpeculativeCaches x = Check.with(0, 4, "a7;a8;a9;", "a1;");
        Check.steps(x, 0, 2);
        x.step(1);
        Check.due("load in the middle", Check.load(x, 0, "a5;"), 1);
        Check.due("position", x.core(0, 1), 0);
        Check.due("accumulator", x.core(0, 0), 0);
        Check.due("the other core stays", x.core(1, 0) * 10 + x.core(1, 1), 11);
    }

    private static void loadGivesNumberUp() {
        Check.sentence("(The number of an aborted transaction that has not been begun again is given up.)");
        SpeculativeCaches x = Check.with(0, 4, "b;r0;c;", "b;c;");
        Check.steps(x, 0, 2);
        x.poke(0, 1);
        Check.due("load after an abort", x.load(0), 2);
        x.step(0);
        Check.due("a new number", x.core(0, 3), 1);
        Check.due("numbers", x.value(4), 2);
        x = Check.with(0, 4, "b;r0;c;", "b;r0;c;");
        Check.steps(x, 0, 2);
        x.poke(0, 1);
        x.load(1);
        x.step(0);
        Check.due("a load of another core gives up nothing", x.core(0, 3), 0);
    }

    private static void loadKeepsText() {
        Check.sentence("The text stays as it is.");
        SpeculativeCaches x = new SpeculativeCaches();
        Check.type(x, "b;c");
        x.load(0);
        Check.due("append after an error", x.append(';'), 4);
        Check.due("load", x.load(0), 2);
        Check.due("load into another core", x.load(1), 2);
        Check.due("the length", x.clearText(), 4);
    }

    private static void loadOfAnErrorChangesNothing() {
        Check.sentence("-10 minus the syntax error position if there is a syntax error (then nothing changes)");
        SpeculativeCaches x = Check.with(0, 4, "b;r0;c;", "a6;a7;");
        Check.steps(x, 0, 2);
        x.poke(0, 1);
        x.step(1);
        Check.makeRoomToSave(x);
        String[] texts = {"x", "b;c;a1234;", "b;c;r", "b;".repeat(31)};
        for (String text : texts) {
            Check.type(x, text);
            long before = x.digest();
            Check.due("an error", x.load(0) < -9 && x.load(1) < -9, true);
            Check.due("digest", x.digest(), before);
        }
        x.step(0);
        Check.due("the kept number stays", x.core(0, 3), 0);
        x.step(1);
        Check.due("the program stays", x.core(1, 0), 13);
    }

    private static void loadOfNoCore() {
        Check.sentence("Throws IndexOutOfBoundsException if there is no such core", "load");
        for (int cores = 2; cores <= 4; cores++) {
            SpeculativeCaches x = new SpeculativeCaches();
            x.begin(cores, 0, 4);
            Check.dueThrowOutside(x, BOUNDS, "load", 0, cores - 1, core -> x.load(core));
            x.append('?');
            Check.dueThrowOutside(x, BOUNDS, "load of an error", 0, cores - 1, core -> x.load(core));
        }
    }

    private static void loadIntoATransaction() {
        Check.sentence("Throws IllegalStateException if the core has a transaction", "load");
        SpeculativeCaches x = Check.with(0, 4, "b;r0;c;c;");
        x.step(0);
        Check.dueState(x, "load after begin", () -> x.load(0));
        x.step(0);
        Check.dueState(x, "load after a read", () -> x.load(0));
        x.step(0);
        Check.due("load after the commit", x.load(0), 4);
        Check.steps(x, 0, 2);
        x.poke(0, 0);
        Check.due("load after the abort", x.load(0), 4);
    }

    private static void againOfAFinishedCore() {
        Check.sentence("Sets the position of a finished core to 0. .. Returns the number of instructions of its "
                + "program.");
        SpeculativeCaches x = Check.with(0, 4, "a1;", "a1;".repeat(30));
        x.step(0);
        Check.due("again of one", x.again(0), 1);
        Check.due("position", x.core(0, 1), 0);
        Check.steps(x, 1, 30);
        Check.due("again of thirty", x.again(1), 30);
        Check.due("position", x.core(1, 1), 0);
        Check.due("none is finished", x.value(3), 0);
    }

    private static void againOfNoInstructions() {
        Check.sentence("Sets the position of a finished core to 0.", "no instructions");
        SpeculativeCaches x = new SpeculativeCaches();
        Check.due("again", x.again(1), 0);
        Check.due("again once more", x.again(1), 0);
        Check.due("still finished", x.value(3), 2);
    }

    private static void againKeepsAccumulator() {
        Check.sentence("(The accumulator stays.)");
        SpeculativeCaches x = Check.with(0, 4, "a-7;b;c;");
        Check.steps(x, 0, 3);
        x.again(0);
        Check.due("accumulator", x.core(0, 0), -7);
        x.step(0);
        Check.due("accumulator after a step", x.core(0, 0), -14);
    }

    private static void againOfNoCore() {
        Check.sentence("Throws IndexOutOfBoundsException if there is no such core", "again");
        for (int cores = 2; cores <= 4; cores++) {
            SpeculativeCaches x = new SpeculativeCaches();
            x.begin(cores, 0, 4);
            Check.dueThrowOutside(x, BOUNDS, "again", 0, cores - 1, core -> x.again(core));
        }
    }

    private static void againOfAnUnfinishedCore() {
        Check.sentence("Throws IllegalStateException if the core is not finished", "again");
        SpeculativeCaches x = Check.with(0, 4, "a1;a1;");
        Check.dueState(x, "again at the first instruction", () -> x.again(0));
        x.step(0);
        Check.dueState(x, "again at the last instruction", () -> x.again(0));
        x.step(0);
        Check.due("again when finished", x.again(0), 2);
    }

    private static void againWithATransaction() {
        Check.sentence("if the core is not finished, or has a transaction", "again");
        SpeculativeCaches x = Check.with(0, 4, "b;r0;");
        x.step(0);
        Check.dueState(x, "again, not finished, with a transaction", () -> x.again(0));
        x.step(0);
        Check.dueState(x, "again, finished, with a transaction", () -> x.again(0));
    }
}
