/** The boundaries of promises 1 (a new object), 7 (plan), 8 (fail), 9 (calls) and 10 (source). */
public final class TargetsEdgesTest {
    private static final int NONE = AdviceLinks.NONE;
    private static final int RETURNED = AdviceLinks.RETURNED;
    private static final int THROWN = AdviceLinks.THROWN;
    private static final int LOWEST = Integer.MIN_VALUE;
    private static final int HIGHEST = Integer.MAX_VALUE;
    private static final int[] NO_TARGETS = {LOWEST, -2, -1, 2, 3, HIGHEST};
    private static final int[] NO_METHODS = {LOWEST, -6, -1, 6, 7, 11, HIGHEST};
    private static final Due DUE = new Due();
    private static final Refusal REFUSAL = new Refusal(DUE);

    public static void main(String[] args) {
        DUE.test("Promise 1: no advisors", TargetsEdgesTest::newNoAdvisors);
        DUE.test("Promise 1: not frozen", TargetsEdgesTest::newNotFrozen);
        DUE.test("Promise 1: source 0", TargetsEdgesTest::newSource);
        DUE.test("Promise 1: the factor 1, the addend 0, no argument at which they fail and no next method",
            TargetsEdgesTest::newTargets);
        DUE.test("Promise 1: no invocation was made", TargetsEdgesTest::newNoInvocation);
        DUE.test("Promise 1: a new object beside a used one", TargetsEdgesTest::newBesideAUsedOne);
        DUE.test("Promise 7: sets a target's factor and addend for a method", TargetsEdgesTest::planSetsOnlyThese);
        DUE.test("Promise 7: false when target is not 0 or 1", TargetsEdgesTest::planTarget);
        DUE.test("Promise 7: false when method is not 0 .. 5", TargetsEdgesTest::planMethod);
        DUE.test("Promise 8: at which argument a target fails", TargetsEdgesTest::failAtOneArgument);
        DUE.test("Promise 8: 0: it fails no more, whatever argument is", TargetsEdgesTest::failNoMore);
        DUE.test("Promise 8: false when target is not 0 or 1", TargetsEdgesTest::failTarget);
        DUE.test("Promise 8: false when method is not 0 .. 5", TargetsEdgesTest::failMethod);
        DUE.test("Promise 8: false when exception is not 0 .. 15", TargetsEdgesTest::failException);
        DUE.test("Promise 9: sets the next method, NONE for none", TargetsEdgesTest::callsOrNone);
        DUE.test("Promise 9: false when target is not 0 or 1", TargetsEdgesTest::callsTarget);
        DUE.test("Promise 9: false when method is not 0 .. 5", TargetsEdgesTest::callsMethod);
        DUE.test("Promise 9: false when next is neither NONE nor 0 .. 5", TargetsEdgesTest::callsNext);
        DUE.test("Promise 10: sets the source: true", TargetsEdgesTest::sourceSets);
        DUE.test("Promise 10: 2 begins anew with target 0, also when it was 2", TargetsEdgesTest::sourceBeginsAnew);
        DUE.test("Promise 10: false when it is not 0 .. 2", TargetsEdgesTest::sourceIsNot0To2);
        DUE.end();
    }

    private static void newNoAdvisors() {
        AdviceLinks x = new AdviceLinks();
        for (int method = 0; method < 6; method++) {
            DUE.chain("empty", x, method);
        }
        DUE.no("none to remove", x.remove(0));
        DUE.is("the first number", x.advise(1, 0, 1, 0, 0), 0);
    }

    private static void newNotFrozen() {
        DUE.is("advise", new AdviceLinks().advise(1, 0, 1, 0, 0), 0);
        AdviceLinks x = new AdviceLinks();
        x.freeze(false);
        DUE.is("as after freeze(false)", x.advise(1, 0, 1, 0, 0), 0);
    }

    private static void newSource() {
        AdviceLinks x = new AdviceLinks();
        x.plan(1, 0, 1, 1000);
        for (int i = 0; i < 4; i++) {
            DUE.invokes("target 0 every time", x, 0, i, RETURNED, i, 100, i);
        }
    }

    private static void newTargets() {
        int[] arguments = {LOWEST, -1, 0, 1, 2, 15, HIGHEST};
        for (int target = 0; target < 2; target++) {
            AdviceLinks x = new AdviceLinks();
            x.source(target);
            for (int method = 0; method < 6; method++) {
                for (int argument : arguments) {
                    DUE.invokes("as it came", x, method, argument, RETURNED, argument, 100 + method, argument);
                }
            }
        }
    }

    private static void newNoInvocation() {
        AdviceLinks x = new AdviceLinks();
        DUE.is("result()", x.result(), 0);
        DUE.is("events()", x.events(), 0);
        DUE.is("who(0)", x.who(0), NONE);
        DUE.is("what(0)", x.what(0), 0);
        DUE.is("asked()", x.asked(), 0);
        DUE.is("taken()", x.taken(), 0);
    }

    private static void newBesideAUsedOne() {
        AdviceLinks used = State.SIX.make();
        newNoAdvisors();
        newNotFrozen();
        newSource();
        newTargets();
        newNoInvocation();
        DUE.chain("the used one has not changed", used, 5, 5, 0, 3, 2, 4, 6);
        DUE.is("the used one has not changed", used.taken(), 3);
    }

    private static void planSetsOnlyThese() {
        AdviceLinks x = new AdviceLinks();
        for (int target = 0; target < 2; target++) {
            x.fail(target, 0, 7, 3);
            x.calls(target, 5, 4);
        }
        DUE.yes("plan(0, 0, 2, 5)", x.plan(0, 0, 2, 5));
        DUE.yes("plan(1, 5, -1, 9)", x.plan(1, 5, -1, 9));
        DUE.invokes("target 0, method 0", x, 0, 10, RETURNED, 25, 100, 10);
        DUE.invokes("still fails", x, 0, 7, THROWN, 3, 100, 7);
        DUE.invokes("target 0, method 5", x, 5, 10, RETURNED, 9, 105, 10, 104, 9);
        x.source(1);
        DUE.invokes("target 1, method 0", x, 0, 10, RETURNED, 10, 100, 10);
        DUE.invokes("target 1, method 5", x, 5, 10, RETURNED, 0, 105, 10, 104, 9);
        DUE.yes("back", x.plan(1, 5, 1, 0));
        DUE.invokes("back", x, 5, 10, RETURNED, 9, 105, 10, 104, 9);
    }

    private static void planTarget() {
        for (int target : NO_TARGETS) {
            for (int method = 0; method < 6; method++) {
                int m = method;
                REFUSAL.isFalse("plan(" + target + ", " + m + ", 50, 7)", x -> x.plan(target, m, 50, 7), State.values());
            }
        }
        for (int target = 0; target < 2; target++) {
            AdviceLinks x = new AdviceLinks();
            DUE.yes("target " + target, x.plan(target, 0, 50, 7));
            x.source(target);
            DUE.invokes("target " + target, x, 0, 2, RETURNED, 107, 100, 2);
            x.source(1 - target);
            DUE.invokes("target " + (1 - target), x, 0, 2, RETURNED, 2, 100, 2);
        }
    }

    private static void planMethod() {
        for (int method : NO_METHODS) {
            REFUSAL.isFalse("plan(0, " + method + ", 50, 7)", x -> x.plan(0, method, 50, 7), State.values());
            REFUSAL.isFalse("plan(1, " + method + ", 50, 7)", x -> x.plan(1, method, 50, 7), State.values());
        }
        for (int method = 0; method < 6; method++) {
            AdviceLinks x = new AdviceLinks();
            DUE.yes("method " + method, x.plan(0, method, 50, 7));
            for (int other = 0; other < 6; other++) {
                DUE.invokes("method " + method, x, other, 2, RETURNED, other == method ? 107 : 2, 100 + other, 2);
            }
        }
    }

    private static void failAtOneArgument() {
        int[] arguments = {LOWEST, -1, 0, 1, HIGHEST};
        for (int argument : arguments) {
            AdviceLinks x = new AdviceLinks();
            DUE.yes("fail", x.fail(0, 0, argument, 9));
            DUE.invokes("below it", x, 0, argument - 1, RETURNED, argument - 1, 100, argument - 1);
            DUE.invokes("at it", x, 0, argument, THROWN, 9, 100, argument);
            DUE.invokes("above it", x, 0, argument + 1, RETURNED, argument + 1, 100, argument + 1);
            DUE.yes("another one in its place", x.fail(0, 0, argument + 1, 8));
            DUE.invokes("the old one", x, 0, argument, RETURNED, argument, 100, argument);
            DUE.invokes("the new one", x, 0, argument + 1, THROWN, 8, 100, argument + 1);
        }
    }

    private static void failNoMore() {
        int[] whatever = {LOWEST, -1, 0, 5, 6, HIGHEST};
        for (int argument : whatever) {
            AdviceLinks x = new AdviceLinks();
            x.fail(0, 0, 5, 9);
            DUE.yes("fail(0, 0, " + argument + ", 0)", x.fail(0, 0, argument, 0));
            DUE.invokes("where it failed", x, 0, 5, RETURNED, 5, 100, 5);
            DUE.invokes("at what came with 0", x, 0, argument, RETURNED, argument, 100, argument);
            DUE.yes("no more once more", x.fail(0, 0, argument, 0));
            DUE.yes("and again", x.fail(0, 0, argument, 1));
            DUE.invokes("and again", x, 0, argument, THROWN, 1, 100, argument);
        }
    }

    private static void failTarget() {
        for (int target : NO_TARGETS) {
            for (int method = 0; method < 6; method++) {
                int m = method;
                REFUSAL.isFalse("fail(" + target + ", " + m + ", 3, 5)", x -> x.fail(target, m, 3, 5), State.values());
                REFUSAL.isFalse("fail(" + target + ", " + m + ", 3, 0)", x -> x.fail(target, m, 3, 0), State.values());
            }
        }
        for (int target = 0; target < 2; target++) {
            AdviceLinks x = new AdviceLinks();
            DUE.yes("target " + target, x.fail(target, 0, 3, 5));
            x.source(target);
            DUE.invokes("target " + target, x, 0, 3, THROWN, 5, 100, 3);
            x.source(1 - target);
            DUE.invokes("target " + (1 - target), x, 0, 3, RETURNED, 3, 100, 3);
        }
    }

    private static void failMethod() {
        for (int method : NO_METHODS) {
            for (int target = 0; target < 2; target++) {
                int t = target;
                REFUSAL.isFalse("fail(" + t + ", " + method + ", 3, 5)", x -> x.fail(t, method, 3, 5), State.values());
                REFUSAL.isFalse("fail(" + t + ", " + method + ", 3, 0)", x -> x.fail(t, method, 3, 0), State.values());
            }
        }
        for (int method = 0; method < 6; method++) {
            AdviceLinks x = new AdviceLinks();
            DUE.yes("method " + method, x.fail(0, method, 3, 5));
            for (int other = 0; other < 6; other++) {
                boolean fails = other == method;
                DUE.invokes("method " + method, x, other, 3, fails ? THROWN : RETURNED, fails ? 5 : 3, 100 + other, 3);
            }
        }
    }

    private static void failException() {
        int[] wrong = {LOWEST, -15, -1, 16, 17, HIGHEST};
        for (int exception : wrong) {
            for (int argument = 3; argument <= 5; argument++) {
                int at = argument;
                String call = "fail(0, 2, " + at + ", " + exception + ")";
                REFUSAL.isFalse(call, x -> x.fail(0, 2, at, exception), State.values());
            }
        }
        for (int exception = 1; exception <= 15; exception++) {
            AdviceLinks x = new AdviceLinks();
            DUE.yes("exception " + exception, x.fail(0, 0, 3, exception));
            DUE.invokes("exception " + exception, x, 0, 3, THROWN, exception, 100, 3);
        }
        AdviceLinks x = new AdviceLinks();
        DUE.yes("exception 0", x.fail(0, 0, 3, 0));
        DUE.invokes("exception 0", x, 0, 3, RETURNED, 3, 100, 3);
    }

    private static void callsOrNone() {
        AdviceLinks x = new AdviceLinks();
        DUE.yes("NONE before any", x.calls(0, 0, NONE));
        DUE.invokes("NONE before any", x, 0, 1, RETURNED, 1, 100, 1);
        DUE.yes("1", x.calls(0, 0, 1));
        DUE.invokes("1", x, 0, 1, RETURNED, 0, 100, 1, 101, 0);
        DUE.yes("2 in its place", x.calls(0, 0, 2));
        DUE.invokes("2 in its place", x, 0, 1, RETURNED, 0, 100, 1, 102, 0);
        DUE.yes("itself", x.calls(0, 0, 0));
        DUE.invokes("itself", x, 0, 1, RETURNED, 0, 100, 1, 100, 0);
        DUE.yes("NONE", x.calls(0, 0, NONE));
        DUE.invokes("NONE", x, 0, 1, RETURNED, 1, 100, 1);
    }

    private static void callsTarget() {
        for (int target : NO_TARGETS) {
            for (int method = 0; method < 6; method++) {
                int m = method;
                REFUSAL.isFalse("calls(" + target + ", " + m + ", 3)", x -> x.calls(target, m, 3), State.values());
                REFUSAL.isFalse("calls(" + target + ", " + m + ", NONE)", x -> x.calls(target, m, NONE), State.values());
            }
        }
        for (int target = 0; target < 2; target++) {
            AdviceLinks x = new AdviceLinks();
            DUE.yes("target " + target, x.calls(target, 0, 3));
            x.source(target);
            DUE.invokes("target " + target, x, 0, 3, RETURNED, 2, 100, 3, 103, 2);
            x.source(1 - target);
            DUE.invokes("target " + (1 - target), x, 0, 3, RETURNED, 3, 100, 3);
        }
    }

    private static void callsMethod() {
        for (int method : NO_METHODS) {
            for (int target = 0; target < 2; target++) {
                int t = target;
                REFUSAL.isFalse("calls(" + t + ", " + method + ", 3)", x -> x.calls(t, method, 3), State.values());
                REFUSAL.isFalse("calls(" + t + ", " + method + ", NONE)", x -> x.calls(t, method, NONE), State.values());
            }
        }
        for (int method = 0; method < 6; method = method + 5) {
            AdviceLinks x = new AdviceLinks();
            DUE.yes("method " + method, x.calls(0, method, 3));
            DUE.invokes("method " + method, x, method, 3, RETURNED, 2, 100 + method, 3, 103, 2);
            DUE.invokes("method " + (5 - method), x, 5 - method, 3, RETURNED, 3, 105 - method, 3);
        }
    }

    private static void callsNext() {
        int[] wrong = {LOWEST, -6, -2, 6, 7, HIGHEST};
        for (int next : wrong) {
            for (int method = 0; method < 6; method++) {
                int m = method;
                REFUSAL.isFalse("calls(0, " + m + ", " + next + ")", x -> x.calls(0, m, next), State.values());
                REFUSAL.isFalse("calls(1, " + m + ", " + next + ")", x -> x.calls(1, m, next), State.values());
            }
        }
        for (int next = 0; next <= 5; next++) {
            AdviceLinks x = new AdviceLinks();
            DUE.yes("next " + next, x.calls(0, 2, next));
            DUE.invokes("next " + next, x, 2, 1, RETURNED, 0, 102, 1, 100 + next, 0);
        }
    }

    /** An object whose target 1 adds 1000 in method 0. */
    private static AdviceLinks withTwoTargets() {
        AdviceLinks x = new AdviceLinks();
        x.plan(1, 0, 1, 1000);
        return x;
    }

    private static void takes(String run, AdviceLinks x, int... targets) {
        for (int target : targets) {
            DUE.invokes(run, x, 0, 5, RETURNED, 5 + 1000 * target, 100, 5);
        }
    }

    private static void sourceSets() {
        AdviceLinks x = withTwoTargets();
        DUE.yes("source(1)", x.source(1));
        takes("source 1", x, 1, 1, 1);
        DUE.yes("source(0)", x.source(0));
        takes("source 0", x, 0, 0, 0);
        DUE.yes("source(2)", x.source(2));
        takes("source 2", x, 0, 1, 0, 1, 0);
    }

    private static void sourceBeginsAnew() {
        AdviceLinks x = withTwoTargets();
        x.source(2);
        takes("source 2", x, 0);
        DUE.yes("it was 2, and 1 was next", x.source(2));
        takes("anew", x, 0, 1);
        DUE.yes("it was 2, and 0 was next", x.source(2));
        takes("anew", x, 0);
        x.source(0);
        takes("source 0", x, 0);
        DUE.yes("it was 0", x.source(2));
        takes("anew", x, 0);
        x.source(1);
        takes("source 1", x, 1);
        DUE.yes("it was 1", x.source(2));
        takes("anew", x, 0, 1, 0);
    }

    private static void sourceIsNot0To2() {
        int[] wrong = {LOWEST, -2, -1, 3, 4, HIGHEST};
        for (int source : wrong) {
            REFUSAL.isFalse("source(" + source + ")", x -> x.source(source), State.values());
            for (int good = 0; good <= 2; good++) {
                AdviceLinks x = withTwoTargets();
                DUE.yes("source(" + good + ")", x.source(good));
                takes("source " + good, x, good == 1 ? 1 : 0);
                DUE.no("source(" + source + ")", x.source(source));
                takes("source " + good + " as before", x, good == 0 ? 0 : 1);
            }
        }
    }
}
