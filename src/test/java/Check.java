/** What the tests share: answers that are due, exceptions that are due, programs typed as texts. */
final class Check {
    interface Call {
        long answer();
    }

    private static int checked = 0;
    private static int wrong = 0;

    private Check() {
    }

    static void due(String call, long got, long want) {
        checked++;
        if (got != want) {
            wrong++;
            System.out.println(call + " answered " + got + ", due is " + want);
        }
    }

    static void due(String call, boolean got, boolean want) {
        due(call, got ? 1 : 0, want ? 1 : 0);
    }

    /** The call must throw exactly the exception named, and change nothing. */
    static void dueThrow(SpeculativeCaches x, Class<? extends RuntimeException> want, String call, Call what) {
        long before = x.digest();
        String got = "nothing";
        try {
            what.answer();
        } catch (RuntimeException e) {
            got = e.getClass().getSimpleName();
        }
        checked++;
        if (!got.equals(want.getSimpleName())) {
            wrong++;
            System.out.println(call + " threw " + got + ", due is " + want.getSimpleName());
        }
        due("digest after the throw of " + call, x.digest(), before);
    }

    static void dueIllegal(SpeculativeCaches x, String call, Call what) {
        dueThrow(x, IllegalArgumentException.class, call, what);
    }

    static void dueBounds(SpeculativeCaches x, String call, Call what) {
        dueThrow(x, IndexOutOfBoundsException.class, call, what);
    }

    static void dueState(SpeculativeCaches x, String call, Call what) {
        dueThrow(x, IllegalStateException.class, call, what);
    }

    static void type(SpeculativeCaches x, String text) {
        x.clearText();
        for (int i = 0; i < text.length(); i++) {
            x.append(text.charAt(i));
        }
    }

    static int load(SpeculativeCaches x, int core, String program) {
        type(x, program);
        return x.load(core);
    }

    static void steps(SpeculativeCaches x, int core, int count) {
        for (int i = 0; i < count; i++) {
            x.step(core);
        }
    }

    /** A new simulator, begun with these settings, the programs loaded into its cores. */
    static SpeculativeCaches with(int policy, int buffer, String... programs) {
        SpeculativeCaches x = new SpeculativeCaches();
        x.begin(Math.max(2, programs.length), policy, buffer);
        for (int core = 0; core < programs.length; core++) {
            load(x, core, programs[core]);
        }
        return x;
    }

    /** How many states are saved, told by undoing them all: the object is of no use afterwards. */
    static int savedStates(SpeculativeCaches x) {
        int saved = 0;
        while (saved < 100) {
            try {
                x.undo();
            } catch (IllegalStateException e) {
                return saved;
            }
            saved++;
        }
        return saved;
    }

    static void end() {
        System.out.println(checked + " answers, " + wrong + " wrong");
        if (wrong != 0 || checked == 0) {
            System.exit(1);
        }
    }
}
