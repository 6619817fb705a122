/** Boundary cases of "Scheduler" and promises 10 and 23 to 25: one method a sentence, which it quotes. */
public final class SchedulerEdgesTest {
    private static final Class<IllegalArgumentException> ILLEGAL = IllegalArgumentException.class;
    /** For a buffer of one line: it is aborted at its third step, for ever. */
    private static final String ENDLESS = "b;w0;w1;";
    private static final String UNLUCKY = "b;r0;r1;r2;r3;w0;w1;a1;a1;a1;c;";

    public static void main(String[] args) {
        modulo();
        indexAmongTheUnfinished();
        nothingWhenAllAreFinished();
        stopsInTheMiddle();
        runOfNoSteps();
        runOfThousandSteps();
        runRefused();
        runReturnsFinishedCores();
        finishOfFinishedCores();
        finishOfOneStep();
        finishOfTwoThousand();
        finishNever();
        finishRefused();
        finishChangesNothing();
        finishUsesThePolicy();
        abortsOfNoSteps();
        abortsOfAllKinds();
        abortsOfThousandSteps();
        abortsAfterTheEnd();
        abortsRefused();
        bestOfEqualOnes();
        bestOfNone();
        bestWhenOthersNeverFinish();
        bestChangesNothing();
        Check.end();
    }

    private static int next(int s) {
        return (int) ((1103515245L * s + 12345L) % 2147483648L);
    }

    /** The s of now: asked by a seed() that is undone. */
    private static int s(SpeculativeCaches x) {
        int s = x.seed(0);
        x.undo();
        return s;
    }

    private static void modulo() {
        Check.sentence("s becomes (1103515245 * s + 12345) modulo 2147483648");
        Check.due("after 0", next(0), 12345);
        int[] seeds = {0, 1, 2, 3, 65535, 65536, 999998, 999999};
        for (int seed : seeds) {
            SpeculativeCaches x = Check.with(0, 4, "a1;".repeat(30));
            x.seed(seed);
            int s = seed;
            for (int i = 0; i < 30; i++) {
                x.run(1);
                s = next(s);
                Check.due("s from " + seed + " after " + (i + 1) + " steps", s(x), s);
            }
        }
    }

    private static void indexAmongTheUnfinished() {
        Check.sentence("of the cores that are not finished, in ascending order, the one with the index (s / 65536, "
                + "rounded down) modulo their number does a step");
        String[][] programs = {{"a1;", "a1;"}, {"a1;", "a1;", "a1;"}, {"a1;", "a1;", "a1;", "a1;"}, {"", "a1;"},
            {"a1;", ""}, {"", "a1;", "a1;"}, {"a1;", "", "a1;"}, {"a1;", "a1;", ""}, {"a1;", "", "a1;", "a1;"},
            {"", "a1;", "", "a1;"}, {"", "", "", "a1;"}};
        for (String[] each : programs) {
            for (int seed = 0; seed < 40; seed++) {
                SpeculativeCaches x = Check.with(0, 4, each);
                x.seed(seed * 25641);
                int unfinished = each.length - x.value(3);
                int index = next(seed * 25641) / 65536 % unfinished;
                x.run(1);
                for (int core = 0; core < each.length; core++) {
                    boolean due = !each[core].isEmpty() && index-- == 0;
                    Check.due("core " + core + " of " + each.length + ", seed " + seed, x.core(core, 1), due ? 1 : 0);
                }
            }
        }
    }

    private static void nothingWhenAllAreFinished() {
        Check.sentence("Nothing happens if all are finished.");
        SpeculativeCaches x = Check.with(0, 4, "a1;");
        x.step(0);
        long[] before = {x.counter(7), s(x), x.core(0, 0), x.core(0, 1)};
        Check.due("run(1)", x.run(1), 2);
        Check.due("run(1000)", x.run(1000), 2);
        long[] after = {x.counter(7), s(x), x.core(0, 0), x.core(0, 1)};
        for (int i = 0; i < before.length; i++) {
            Check.due("fact " + i, after[i], before[i]);
        }
    }

    private static void stopsInTheMiddle() {
        Check.sentence("Nothing happens if all are finished.", "from the step on at which they are");
        SpeculativeCaches x = Check.with(0, 4, "a1;", "a1;", "a1;");
        Check.due("run(5) with three instructions", x.run(5), 3);
        Check.due("steps", x.counter(7), 3);
        Check.due("s", s(x), next(next(next(1))));
        x.undo();
        Check.due("run(3)", x.run(3), 3);
        Check.due("s", s(x), next(next(next(1))));
        x.undo();
        Check.due("run(2)", x.run(2), 2);
    }

    private static void runOfNoSteps() {
        Check.sentence("steps: 0 to 1000", "run(0)");
        SpeculativeCaches x = Check.with(0, 4, "a1;", "", "a1;");
        long before = x.digest();
        Check.due("run(0)", x.run(0), 1);
        x.undo();
        Check.due("digest, one saved state less", x.digest(), before - 1);
        Check.due("s", s(x), 1);
    }

    private static void runOfThousandSteps() {
        Check.sentence("steps: 0 to 1000", "run(1000)");
        SpeculativeCaches x = Check.with(0, 1, ENDLESS, ENDLESS);
        Check.due("run(1000)", x.run(1000), 0);
        Check.due("steps", x.counter(7), 1000);
        Check.due("run(999)", x.run(999), 0);
        Check.due("steps", x.counter(7), 1999);
    }

    private static void runRefused() {
        Check.sentence("Throws IllegalArgumentException if steps is out of range");
        SpeculativeCaches x = Check.busy();
        Check.dueThrowOutside(x, ILLEGAL, "run", 0, 1000, steps -> x.run(steps));
        Check.due("s", s(x), 1);
    }

    private static void runReturnsFinishedCores() {
        Check.sentence("Returns the number of cores that are finished afterwards.");
        SpeculativeCaches x = Check.with(0, 4, "a1;", "b;w1;", "a1;a1;a1;a1;a1;", "a1;");
        int most = 0;
        for (int i = 1; i <= 9; i++) {
            int finished = x.run(1);
            Check.due("value(3)", x.value(3), finished);
            Check.due("not fewer than before", finished >= most, true);
            most = finished;
        }
        Check.due("all, one with a transaction", most, 4);
        Check.due("the transaction", x.core(1, 3), 0);
    }

    private static void finishOfFinishedCores() {
        Check.sentence("Tells how many scheduled steps it would take until all cores are finished.", "none");
        SpeculativeCaches x = Check.with(0, 4, "b;r0;");
        Check.steps(x, 0, 2);
        for (int policy = 0; policy < 3; policy++) {
            Check.due("finish of no programs", new SpeculativeCaches().finish(policy), 0);
            Check.due("finish with an open transaction", x.finish(policy), 0);
        }
    }

    private static void finishOfOneStep() {
        Check.sentence("Tells how many scheduled steps it would take until all cores are finished.", "the last one");
        SpeculativeCaches x = Check.with(0, 4, "a1;a1;", "a1;");
        for (int left = 3; left >= 0; left--) {
            Check.due("finish", x.finish(1), left);
            x.run(1);
        }
    }

    private static void finishOfTwoThousand() {
        Check.sentence("NONE if 2000 are not enough");
        SpeculativeCaches x = Check.with(0, 4, UNLUCKY, UNLUCKY, UNLUCKY, UNLUCKY);
        x.seed(260);
        Check.due("2001 steps", x.finish(0), -1);
        x.run(1);
        Check.due("2000 steps", x.finish(0), 2000);
        x.run(1);
        Check.due("1999 steps", x.finish(0), 1999);
        x.run(1000);
        Check.due("999 more leave some", x.run(998) < 4, true);
        Check.due("the last step", x.run(1), 4);
    }

    private static void finishNever() {
        Check.sentence("Returns the number of steps; NONE if 2000 are not enough.", "never");
        SpeculativeCaches x = Check.with(0, 1, ENDLESS);
        for (int policy = 0; policy < 3; policy++) {
            Check.due("finish(" + policy + ")", x.finish(policy), -1);
        }
    }

    private static void finishRefused() {
        Check.sentence("Throws IllegalArgumentException if policy is out of range", "finish");
        SpeculativeCaches x = Check.busy();
        Check.dueThrowOutside(x, ILLEGAL, "finish", 0, 2, policy -> x.finish(policy));
    }

    private static void finishChangesNothing() {
        Check.sentence("The state does not change.", "finish");
        SpeculativeCaches x = Check.busy();
        long before = x.digest();
        Check.due("finish is the same again", x.finish(0) == x.finish(0), true);
        x.finish(2);
        Check.due("digest", x.digest(), before);
        Check.due("s", s(x), 1);
        Check.due("policy", x.value(1), 1);
        Check.due("log", x.commits(), 2);
    }

    /** The holder of line 0 has finished with its transaction open: number 0. */
    private static SpeculativeCaches heldForEver() {
        SpeculativeCaches x = Check.with(1, 4, "b;w0;", "b;r0;c;");
        Check.steps(x, 0, 2);
        return x;
    }

    private static void finishUsesThePolicy() {
        Check.sentence("policy: 0 to 2, the policy");
        SpeculativeCaches x = heldForEver();
        Check.due("requester wins", x.finish(0) > 0, true);
        Check.due("holder wins", x.finish(1), -1);
        Check.due("by number", x.finish(2), -1);
        x.setPolicy(0);
        Check.due("the policy that is set does not matter", x.finish(1), -1);
    }

    private static void abortsOfNoSteps() {
        Check.sentence("steps: 0 to 1000", "abortsWith(.., 0)");
        SpeculativeCaches x = Check.with(0, 1, ENDLESS);
        Check.steps(x, 0, 2);
        Check.due("no steps", x.abortsWith(0, 0), 0);
        Check.due("one step", x.abortsWith(0, 1), 1);
        x.step(0);
        Check.due("no steps after an abort", x.abortsWith(0, 0), 0);
    }

    private static void abortsOfAllKinds() {
        Check.sentence("Counts the aborts (of all kinds) of the next scheduled steps.");
        SpeculativeCaches x = Check.with(0, 1, "b;w0;w1;", "b;r1;", "b;r1;");
        Check.steps(x, 0, 2);
        Check.steps(x, 1, 2);
        Check.steps(x, 2, 2);
        Check.due("two conflicts and the capacity", x.abortsWith(0, 1), 3);
        Check.due("one conflict", x.abortsWith(1, 1), 1);
        x.run(1);
        Check.due("aborts of a run", x.counter(5) * 10 + x.counter(6), 21);
        Check.due("they do not count again", x.abortsWith(0, 0), 0);
    }

    private static void abortsOfThousandSteps() {
        Check.sentence("steps: 0 to 1000", "abortsWith(.., 1000)");
        SpeculativeCaches x = Check.with(0, 1, ENDLESS);
        Check.due("999 steps", x.abortsWith(1, 999), 333);
        Check.due("1000 steps", x.abortsWith(1, 1000), 333);
        Check.steps(x, 0, 2);
        Check.due("1000 steps, the first of them an abort", x.abortsWith(2, 1000), 334);
    }

    private static void abortsAfterTheEnd() {
        Check.sentence("Counts the aborts .. of the next scheduled steps.", "nothing happens after the end");
        Check.due("of no programs", new SpeculativeCaches().abortsWith(0, 1000), 0);
        SpeculativeCaches x = Check.with(0, 4, "b;w0;", "r0;");
        Check.steps(x, 0, 2);
        Check.due("the read aborts once", x.abortsWith(1, 1000), 1);
    }

    private static void abortsRefused() {
        Check.sentence("Throws IllegalArgumentException if an argument is out of range", "abortsWith");
        SpeculativeCaches x = Check.busy();
        Check.dueThrowOutside(x, ILLEGAL, "abortsWith(policy, 0)", 0, 2, policy -> x.abortsWith(policy, 0));
        Check.dueThrowOutside(x, ILLEGAL, "abortsWith(0, steps)", 0, 1000, steps -> x.abortsWith(0, steps));
        long before = x.digest();
        Check.due("the greatest arguments", x.abortsWith(2, 1000) >= 0, true);
        Check.due("digest", x.digest(), before);
        Check.due("policy", x.value(1), 1);
    }

    private static void bestOfEqualOnes() {
        Check.sentence("Returns the policy with the fewest steps by finish(), of several the lowest one.");
        Check.due("all take no steps", new SpeculativeCaches().bestPolicy(), 0);
        Check.due("all take two steps", Check.with(2, 4, "a1;", "b;").bestPolicy(), 0);
        boolean[] tied = new boolean[2];
        for (int seed = 0; seed < 300; seed++) {
            SpeculativeCaches x = Check.with(0, 4, "b;r0;a1;w0;r1;w1;c;", "b;r1;a2;w1;r0;w0;c;", "b;r0;r1;w2;c;");
            x.seed(seed);
            int[] steps = {x.finish(0), x.finish(1), x.finish(2)};
            int due = steps[1] < steps[0] ? 1 : 0;
            due = steps[2] < steps[due] ? 2 : due;
            Check.due("bestPolicy of seed " + seed, x.bestPolicy(), due);
            tied[0] |= steps[0] == steps[1] && steps[0] < steps[2] || steps[0] == steps[2] && steps[0] < steps[1];
            tied[1] |= steps[1] == steps[2] && steps[1] < steps[0];
        }
        Check.due("0 and another were the best at times", tied[0], true);
        Check.due("1 and 2 were the best at times", tied[1], true);
    }

    private static void bestOfNone() {
        Check.sentence("NONE if none of them finishes");
        SpeculativeCaches x = Check.with(0, 1, ENDLESS, "a1;");
        Check.due("bestPolicy", x.bestPolicy(), -1);
        x.begin(2, 0, 2);
        Check.load(x, 0, ENDLESS);
        Check.due("bestPolicy with room for two lines", x.bestPolicy(), 0);
    }

    private static void bestWhenOthersNeverFinish() {
        Check.sentence("Returns the policy with the fewest steps by finish()", "of those that finish");
        Check.due("only 0 finishes", heldForEver().bestPolicy(), 0);
        SpeculativeCaches x = Check.with(0, 4, "b;w0;", "b;r0;c;");
        x.step(1);
        Check.steps(x, 0, 2);
        Check.due("finish(1)", x.finish(1), -1);
        Check.due("finish(2), where the requester has the lower number", x.finish(2) > 0, true);
    }

    private static void bestChangesNothing() {
        Check.sentence("The state does not change.", "bestPolicy");
        SpeculativeCaches x = Check.busy();
        long before = x.digest();
        x.bestPolicy();
        Check.due("digest", x.digest(), before);
        Check.due("s and policy", s(x) * 10 + x.value(1), 11);
    }
}
