/** Promises 23 to 25: finish, abortsWith, bestPolicy. */
public final class WhatIfTest {
    private static final String[] FIGHT = {"b;r0;a1;w0;r1;a1;w1;c;", "b;r1;a2;w1;r0;a2;w0;c;", "b;r0;r1;w2;c;"};

    public static void main(String[] args) {
        finishCounts();
        finishLimit();
        finishAtTheLimit();
        likeRunning();
        bestPolicy();
        refusals();
        Check.end();
    }

    private static void finishCounts() {
        SpeculativeCaches x = new SpeculativeCaches();
        Check.due("all are finished", x.finish(0), 0);
        x = Check.with(0, 4, "a1;a2;", "a3;");
        for (int policy = 0; policy < 3; policy++) {
            Check.due("finish(" + policy + ")", x.finish(policy), 3);
        }
        x.step(0);
        Check.due("finish after a step", x.finish(2), 2);
        Check.due("finish does not change the position", x.core(0, 1), 1);
    }

    /** A core that writes two lines with a buffer of one aborts for ever. */
    private static void finishLimit() {
        SpeculativeCaches x = Check.with(0, 1, "b;w0;w1;c;");
        for (int policy = 0; policy < 3; policy++) {
            Check.due("never finished", x.finish(policy), -1);
        }
        Check.due("no best policy", x.bestPolicy(), -1);
        Check.due("aborts of nothing", x.abortsWith(0, 0), 0);
        Check.due("aborts of 2 steps", x.abortsWith(0, 2), 0);
        Check.due("aborts of 3 steps", x.abortsWith(0, 3), 1);
        Check.due("aborts of 1000 steps", x.abortsWith(2, 1000), 333);
        Check.due("nothing aborted", x.counter(6) + x.core(0, 5), 0);
    }

    /** Four cores that abort one another until one is lucky: with these seeds 2000 and 2001 steps. */
    private static void finishAtTheLimit() {
        String unlucky = "b;r0;r1;r2;r3;w0;w1;a1;a1;a1;c;";
        SpeculativeCaches x = Check.with(0, 4, unlucky, unlucky, unlucky, unlucky);
        x.seed(1377);
        Check.due("2000 are enough", x.finish(0), 2000);
        x.run(1000);
        Check.due("1000 later", x.finish(0), 1000);
        Check.due("999 more are not enough", x.run(999) < 4, true);
        Check.due("one left", x.finish(0), 1);
        Check.due("the last one", x.run(1), 4);
        x = Check.with(0, 4, unlucky, unlucky, unlucky, unlucky);
        x.seed(260);
        Check.due("2000 are not enough", x.finish(0), -1);
        x.run(1);
        Check.due("2000 are enough after one", x.finish(0), 2000);
    }

    private static int runUntilFinished(SpeculativeCaches x, int policy) {
        x.setPolicy(policy);
        int steps = 0;
        while (x.value(3) < x.value(0) && steps < 200) {
            x.run(1);
            steps++;
        }
        return steps;
    }

    private static void likeRunning() {
        for (int seed = 0; seed < 40; seed++) {
            SpeculativeCaches x = Check.with(seed % 3, 4, FIGHT);
            x.seed(seed * 24999);
            x.run(seed % 7);
            long before = x.digest();
            int[] told = new int[3];
            int[] aborts = new int[3];
            for (int policy = 0; policy < 3; policy++) {
                told[policy] = x.finish(policy);
                aborts[policy] = x.abortsWith(policy, 30);
            }
            int best = x.bestPolicy();
            Check.due("digest after what-if runs", x.digest(), before);
            int fewest = 0;
            for (int policy = 0; policy < 3; policy++) {
                SpeculativeCaches y = Check.with(seed % 3, 4, FIGHT);
                y.seed(seed * 24999);
                y.run(seed % 7);
                Check.due("finish(" + policy + ")", told[policy], runUntilFinished(y, policy));
                y = Check.with(seed % 3, 4, FIGHT);
                y.seed(seed * 24999);
                y.run(seed % 7);
                int sofar = y.counter(5) + y.counter(6);
                y.setPolicy(policy);
                y.run(30);
                Check.due("abortsWith(" + policy + ", 30)", aborts[policy], y.counter(5) + y.counter(6) - sofar);
                if (told[policy] < told[fewest]) {
                    fewest = policy;
                }
            }
            Check.due("bestPolicy", best, fewest);
            Check.due("the policy stays", x.value(1), seed % 3);
        }
    }

    private static void bestPolicy() {
        Check.due("all are finished", new SpeculativeCaches().bestPolicy(), 0);
        Check.due("the lowest of several", Check.with(2, 4, "a1;", "b;c;").bestPolicy(), 0);
        boolean[] seen = new boolean[3];
        for (int seed = 0; seed < 400; seed++) {
            SpeculativeCaches x = Check.with(0, 4, FIGHT);
            x.seed(seed);
            int best = x.bestPolicy();
            seen[best] = true;
            for (int policy = 0; policy < 3; policy++) {
                int more = x.finish(policy) - x.finish(best);
                boolean fine = more > 0 || more == 0 && best <= policy;
                Check.due("bestPolicy is the best", fine, true);
            }
        }
        for (int policy = 0; policy < 3; policy++) {
            Check.due("policy " + policy + " is the best at times", seen[policy], true);
        }
    }

    private static void refusals() {
        SpeculativeCaches x = Check.with(0, 4, FIGHT);
        x.run(9);
        int[] policies = {-1, 3, Integer.MAX_VALUE, Integer.MIN_VALUE};
        for (int policy : policies) {
            Check.dueIllegal(x, "finish(" + policy + ")", () -> x.finish(policy));
            Check.dueIllegal(x, "abortsWith(" + policy + ", 5)", () -> x.abortsWith(policy, 5));
        }
        Check.dueIllegal(x, "abortsWith(0, -1)", () -> x.abortsWith(0, -1));
        Check.dueIllegal(x, "abortsWith(0, 1001)", () -> x.abortsWith(0, 1001));
        Check.due("abortsWith(0, 0)", x.abortsWith(0, 0), 0);
    }
}
