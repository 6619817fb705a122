/** Promises 1 to 27: long runs of mixed calls, each answer compared with that of the model. */
public final class ModelTest {
    private static final int RUNS = 900;
    private static final int PROMISED_CALLS = 512;
    private static final int KEPT_FOR_THE_LOG = 120;

    private final SpeculativeCaches x = new SpeculativeCaches();
    private final Model m = new Model();
    private final int run;
    private final int lines;
    private long random;
    private int calls;

    private ModelTest(int run) {
        this.run = run;
        this.random = run * 7919L + 17;
        this.lines = 1 + run % 8;
    }

    public static void main(String[] args) {
        for (int run = 0; run < RUNS; run++) {
            ModelTest test = new ModelTest(run);
            test.start();
            while (test.calls < PROMISED_CALLS - KEPT_FOR_THE_LOG) {
                test.anyCall();
                test.due("digest()", test.x::digest, test.m.digest());
            }
            test.wholeLog();
        }
        Check.end();
    }

    private int draw(int bound) {
        random = random * 6364136223846793005L + 1442695040888963407L;
        return (int) ((random >>> 33) % bound);
    }

    /** Mostly within 0 to bound - 1, at times outside. */
    private int near(int bound) {
        int kind = draw(40);
        return kind == 0 ? -1 : kind == 1 ? bound : kind == 2 ? Integer.MIN_VALUE : kind == 3 ? Integer.MAX_VALUE
                : draw(bound);
    }

    private void due(String call, Check.Call what, long want) {
        calls++;
        if (calls > PROMISED_CALLS) {
            return;
        }
        long got;
        try {
            got = what.answer();
        } catch (RuntimeException e) {
            got = number(e);
        }
        Check.due("run " + run + ": " + call, got, want);
    }

    private static long number(RuntimeException e) {
        if (e.getClass() == IllegalArgumentException.class) {
            return Model.ILLEGAL;
        }
        if (e.getClass() == IllegalStateException.class) {
            return Model.STATE;
        }
        return e.getClass() == IndexOutOfBoundsException.class ? Model.BOUNDS : Long.MIN_VALUE;
    }

    private void start() {
        int cores = 2 + draw(3);
        int policy = draw(3);
        int buffer = 1 + draw(run % 3 == 0 ? 8 : 3);
        due("begin", () -> x.begin(cores, policy, buffer), m.begin(cores, policy, buffer));
        for (int core = 0; core < cores; core++) {
            program(core);
        }
    }

    private void program(int core) {
        StringBuilder text = new StringBuilder();
        int instructions = draw(10) == 0 ? draw(33) : 3 + draw(12);
        for (int i = 0; i < instructions; i++) {
            text.append(instruction());
        }
        if (draw(10) == 0) {
            text.setLength(draw(text.length() + 1));
        }
        if (draw(12) == 0 && text.length() > 0) {
            text.setCharAt(draw(text.length()), "bcrwa;-0789 x".charAt(draw(13)));
        }
        if (text.length() > 118) {
            text.setLength(118);
        }
        due("clearText()", x::clearText, m.clearText());
        for (int i = 0; i < text.length(); i++) {
            int sign = text.charAt(i);
            due("append", () -> x.append(sign), m.append(sign));
        }
        due("load of " + text, () -> x.load(core), m.load(core));
    }

    private String instruction() {
        switch (draw(8)) {
            case 0:
                return "b;";
            case 1:
                return "c;";
            case 2:
            case 3:
            case 4:
                return "r" + draw(lines) + ";";
            case 5:
            case 6:
                return "w" + draw(lines) + ";";
            default:
                return "a" + (draw(3) == 0 ? "-" : "") + draw(draw(2) == 0 ? 10 : 1000) + ";";
        }
    }

    private void anyCall() {
        int kind = draw(100);
        if (kind < 45) {
            int core = near(4);
            due("step(" + core + ")", () -> x.step(core), m.step(core));
        } else if (kind < 60) {
            changingCall(draw(9));
        } else if (kind < 72) {
            int core = near(4);
            due("again(" + core + ")", () -> x.again(core), m.again(core));
        } else if (kind < 76) {
            due("undo()", x::undo, m.undo());
        } else if (kind < 92) {
            lookingCall(draw(11));
        } else {
            whatIf(draw(3));
        }
    }

    private void changingCall(int kind) {
        int small = near(4);
        int value = draw(3) - 1;
        switch (kind) {
            case 0:
            case 1:
                int steps = draw(5) == 0 ? near(1001) : draw(12);
                due("run(" + steps + ")", () -> x.run(steps), m.run(steps));
                break;
            case 2:
            case 3:
                int line = near(8);
                due("poke(" + line + ", " + value + ")", () -> x.poke(line, value), m.poke(line, value));
                break;
            case 4:
                due("setPolicy(" + small + ")", () -> x.setPolicy(small), m.setPolicy(small));
                break;
            case 5:
                int seed = near(1000000);
                due("seed(" + seed + ")", () -> x.seed(seed), m.seed(seed));
                break;
            case 6:
                int sign = near(128);
                due("append(" + sign + ")", () -> x.append(sign), m.append(sign));
                break;
            case 7:
                program(small);
                break;
            default:
                beginAtTimes();
                break;
        }
    }

    private void beginAtTimes() {
        if (draw(4) != 0) {
            return;
        }
        int cores = near(5);
        int policy = near(3);
        int buffer = near(9);
        due("begin(" + cores + ", " + policy + ", " + buffer + ")", () -> x.begin(cores, policy, buffer),
                m.begin(cores, policy, buffer));
        for (int core = 0; core < 2; core++) {
            program(core);
        }
    }

    private void lookingCall(int kind) {
        int core = near(4);
        int line = near(8);
        int what = near(8);
        boolean flag = draw(2) == 0;
        int commit = near((int) m.commits() + 1);
        switch (kind) {
            case 0:
                due("state", () -> x.state(core, line), m.state(core, line));
                break;
            case 1:
                due("cached", () -> x.cached(core, line), m.cached(core, line));
                break;
            case 2:
                due("memory", () -> x.memory(line, flag), m.memory(line, flag));
                break;
            case 3:
                due("set", () -> x.set(core, flag), m.set(core, flag));
                break;
            case 4:
                due("core(" + core + ", " + what + ")", () -> x.core(core, what), m.core(core, what));
                break;
            case 5:
                due("value(" + what + ")", () -> x.value(what), m.value(what));
                break;
            case 6:
                due("counter(" + what + ")", () -> x.counter(what), m.counter(what));
                break;
            case 7:
                due("commits()", x::commits, m.commits());
                break;
            case 8:
                due("commit(" + commit + ", " + what + ")", () -> x.commit(commit, what), m.commit(commit, what));
                break;
            case 9:
                due("commitValue", () -> x.commitValue(commit, line, flag), m.commitValue(commit, line, flag));
                break;
            default:
                due("serializable()", () -> x.serializable() ? 1 : 0, m.serializable());
                break;
        }
    }

    private void whatIf(int kind) {
        int policy = near(3);
        int steps = near(1001);
        switch (kind) {
            case 0:
                due("finish(" + policy + ")", () -> x.finish(policy), m.finish(policy));
                break;
            case 1:
                due("abortsWith", () -> x.abortsWith(policy, steps), m.abortsWith(policy, steps));
                break;
            default:
                due("bestPolicy()", x::bestPolicy, m.bestPolicy());
                break;
        }
    }

    private void wholeLog() {
        due("serializable()", () -> x.serializable() ? 1 : 0, m.serializable());
        for (int i = (int) m.commits() - 1; i >= 0 && calls < PROMISED_CALLS; i--) {
            int commit = i;
            for (int w = 0; w < 4; w++) {
                int what = w;
                due("commit(" + commit + ", " + what + ")", () -> x.commit(commit, what), m.commit(commit, what));
            }
            for (int l = 0; l < 8; l++) {
                int line = l;
                due("read of " + line, () -> x.commitValue(commit, line, false), m.commitValue(commit, line, false));
                due("write of " + line, () -> x.commitValue(commit, line, true), m.commitValue(commit, line, true));
            }
        }
    }
}
