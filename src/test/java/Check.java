/** What the tests share: answers that are due, exceptions that are due, programs typed as texts. */
final class Check {
    interface Call {
        long answer();
    }

    interface CallWith {
        long answer(int value);
    }

    private static int checked = 0;
    private static int wrong = 0;
    private static String sentence = "";

    private Check() {
    }

    /** Quotes the sentence of the document that the next answers are due by: it stands before each wrong one. */
    static void sentence(String quote) {
        sentence = "[" + quote + "] ";
    }

    /** The same, with a note that tells which case of the sentence, or whose sentence, is meant. */
    static void sentence(String quote, String note) {
        sentence = "[" + quote + " (" + note + ")] ";
    }

    static void due(String call, long got, long want) {
        checked++;
        if (got != want) {
            wrong++;
            System.out.println(sentence + call + " answered " + got + ", due is " + want);
        }
    }

    static void due(String call, boolean got, boolean want) {
        due(call, got ? 1 : 0, want ? 1 : 0);
    }

    static void dueSets(SpeculativeCaches x, int core, int reads, int writes) {
        due("read set of " + core, x.set(core, false), reads);
        due("write set of " + core, x.set(core, true), writes);
    }

    /** What commit() tells of one logged commit. */
    static void dueEntry(SpeculativeCaches x, int commit, int core, int transaction, int reads, int writes) {
        due("core of " + commit, x.commit(commit, 0), core);
        due("transaction of " + commit, x.commit(commit, 1), transaction);
        due("first reads of " + commit, x.commit(commit, 2), reads);
        due("writes of " + commit, x.commit(commit, 3), writes);
    }

    /** The call must throw exactly the exception named, and change nothing. */
    static void dueThrow(SpeculativeCaches x, Class<? extends RuntimeException> want, String call, Call what) {
        long before = x.digest();
        String got = "nothing";
        try {
            what.answer();
        } catch (RuntimeException e) {
            got = e.getClass().getSimpleName();
        }
        checked++;
        if (!got.equals(want.getSimpleName())) {
            wrong++;
            System.out.println(sentence + call + " threw " + got + ", due is " + want.getSimpleName());
        }
        due("digest after the throw of " + call, x.digest(), before);
    }

    static void dueIllegal(SpeculativeCaches x, String call, Call what) {
        dueThrow(x, IllegalArgumentException.class, call, what);
    }

    static void dueBounds(SpeculativeCaches x, String call, Call what) {
        dueThrow(x, IndexOutOfBoundsException.class, call, what);
    }

    static void dueState(SpeculativeCaches x, String call, Call what) {
        dueThrow(x, IllegalStateException.class, call, what);
    }

    /** The call must throw for the values next to the range least to most, and for the farthest ones. */
    static void dueThrowOutside(SpeculativeCaches x, Class<? extends RuntimeException> want, String call, int least,
            int most, CallWith what) {
        int[] outside = {least - 1, most + 1, Integer.MIN_VALUE, Integer.MAX_VALUE};
        for (int value : outside) {
            dueThrow(x, want, call + " with " + value, () -> what.answer(value));
        }
    }

    static void type(SpeculativeCaches x, String text) {
        x.clearText();
        for (int i = 0; i < text.length(); i++) {
            x.append(text.charAt(i));
        }
    }

    static int load(SpeculativeCaches x, int core, String program) {
        type(x, program);
        return x.load(core);
    }

    static void steps(SpeculativeCaches x, int core, int count) {
        for (int i = 0; i < count; i++) {
            x.step(core);
        }
    }

    /** A new simulator, begun with these settings, the programs loaded into its cores. */
    static SpeculativeCaches with(int policy, int buffer, String... programs) {
        SpeculativeCaches x = new SpeculativeCaches();
        x.begin(Math.max(2, programs.length), policy, buffer);
        for (int core = 0; core < programs.length; core++) {
            load(x, core, programs[core]);
        }
        return x;
    }

    /** Leaves three saved states at the most: where four are saved, the digest does not tell of one more. */
    static void makeRoomToSave(SpeculativeCaches x) {
        x.run(0);
        x.undo();
    }

    /** Three cores in the middle of their work: a read set, a write set, an aborted one, lines in all states. */
    static SpeculativeCaches busy() {
        SpeculativeCaches x = with(1, 2, "a3;w6;b;r0;w1;c;", "b;r3;w4;c;", "w5;b;r1;c;");
        steps(x, 0, 5);
        steps(x, 1, 3);
        steps(x, 2, 3);
        makeRoomToSave(x);
        return x;
    }

    /** How many states are saved, told by undoing them all: the object is of no use afterwards. */
    static int savedStates(SpeculativeCaches x) {
        int saved = 0;
        while (saved < 100) {
            try {
                x.undo();
            } catch (IllegalStateException e) {
                return saved;
            }
            saved++;
        }
        return saved;
    }

    /** The digest by the words of promise 27; what no call tells is given. */
    static long digestByWords(SpeculativeCaches x, int length, int s, int saved) {
        long h = 31L * 3011 + length;
        for (int what = 0; what <= 4; what++) {
            h = 31 * h + x.value(what);
        }
        h = 31 * h + s;
        for (int core = 0; core < x.value(0); core++) {
            for (int what = 0; what <= 5; what++) {
                h = 31 * h + x.core(core, what);
            }
            h = 31 * h + x.set(core, false);
            h = 31 * h + x.set(core, true);
            for (int line = 0; line < 8; line++) {
                h = 31 * h + x.state(core, line);
                h = 31 * h + x.cached(core, line);
            }
        }
        for (int line = 0; line < 8; line++) {
            h = 31 * h + x.memory(line, false);
        }
        for (int line = 0; line < 8; line++) {
            h = 31 * h + x.memory(line, true);
        }
        for (int what = 0; what <= 7; what++) {
            h = 31 * h + x.counter(what);
        }
        h = 31 * h + x.commits();
        return 31 * h + saved;
    }

    static void end() {
        System.out.println(checked + " answers, " + wrong + " wrong");
        if (wrong != 0 || checked == 0) {
            System.exit(1);
        }
    }
}
