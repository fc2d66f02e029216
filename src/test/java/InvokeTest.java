/**
 * Promises 11 (invoke), 12 (result), 13 (events), 14 (who), 15 (what) and 16 (asked), with the
 * eight kinds and BROKEN.
 */
public final class InvokeTest {
    private static final int NONE = AdviceLinks.NONE;
    private static final int RETURNED = AdviceLinks.RETURNED;
    private static final int THROWN = AdviceLinks.THROWN;
    private static final int BROKEN = AdviceLinks.BROKEN;
    private static final int LOWEST = Integer.MIN_VALUE;
    private static final int HIGHEST = Integer.MAX_VALUE;
    private static final Due DUE = new Due();

    public static void main(String[] args) {
        before();
        change();
        skip();
        twice();
        returning();
        throwing();
        lastly();
        recover();
        exceptionsAreExceptions();
        orderOfTheChain();
        asked();
        refusedInvokeChangesNothing();
        noSuchEvent();
        hundredEvents();
        brokenIsNeitherCaughtNorFinished();
        brokenByLateEvents();
        brokenInsideOthers();
        brokenKeepsTurns();
        DUE.end();
    }

    /** A new object with one advisor of method 0, and a target that throws 6 at 66. */
    private static AdviceLinks with(int kind, int a, int b) {
        AdviceLinks x = new AdviceLinks();
        x.fail(0, 0, 66, 6);
        x.plan(0, 0, 2, 0);
        DUE.is("advise", x.advise(kind, 0, 1, a, b), 0);
        return x;
    }

    private static void before() {
        AdviceLinks x = with(0, 3, 11);
        DUE.invokes("BEFORE throws", x, 0, 3, THROWN, 11, 0, 3);
        DUE.invokes("BEFORE goes on", x, 0, 4, RETURNED, 8, 0, 4, 100, 4);
        DUE.invokes("BEFORE passes a throw", x, 0, 66, THROWN, 6, 0, 66, 100, 66);
        DUE.invokes("BEFORE only for its methods", x, 1, 3, RETURNED, 3, 101, 3);
    }

    private static void change() {
        AdviceLinks x = with(1, -3, 100);
        DUE.invokes("CHANGE", x, 0, 5, RETURNED, 104, 0, 5, 100, 2);
        DUE.invokes("CHANGE passes a throw", x, 0, 69, THROWN, 6, 0, 69, 100, 66);
        DUE.invokes("CHANGE wraps", with(1, 1, HIGHEST), 0, HIGHEST, RETURNED, HIGHEST, 0, HIGHEST, 100, LOWEST);
        DUE.invokes("CHANGE wraps", with(1, 0, HIGHEST), 0, 1, RETURNED, LOWEST + 1, 0, 1, 100, 1);
    }

    private static void skip() {
        AdviceLinks x = with(2, 4, -9);
        DUE.invokes("SKIP less", x, 0, 3, RETURNED, -9, 0, 3);
        DUE.invokes("SKIP lowest", x, 0, LOWEST, RETURNED, -9, 0, LOWEST);
        DUE.invokes("SKIP equal", x, 0, 4, RETURNED, 8, 0, 4, 100, 4);
        DUE.invokes("SKIP passes a throw", x, 0, 66, THROWN, 6, 0, 66, 100, 66);
        DUE.invokes("SKIP nothing is less", with(2, LOWEST, 1), 0, LOWEST, RETURNED, 0, 0, LOWEST, 100, LOWEST);
    }

    private static void twice() {
        AdviceLinks x = with(3, 5, 1000);
        DUE.invokes("TWICE", x, 0, 10, RETURNED, 1050, 0, 10, 100, 10, 100, 15);
        DUE.is("TWICE takes one target", x.taken(), 1);
        DUE.invokes("TWICE first throws", x, 0, 66, THROWN, 6, 0, 66, 100, 66);
        DUE.invokes("TWICE second throws", x, 0, 61, THROWN, 6, 0, 61, 100, 61, 100, 66);
        x.plan(0, 0, 1, 0);
        DUE.invokes("TWICE wraps", x, 0, HIGHEST, RETURNED, 1003, 0, HIGHEST, 100, HIGHEST, 100, LOWEST + 4);
    }

    private static void returning() {
        AdviceLinks x = with(4, 10, 12);
        DUE.invokes("RETURNING throws", x, 0, 5, THROWN, 12, 100, 5, 0, 10);
        DUE.invokes("RETURNING the argument is not the result", x, 0, 10, RETURNED, 20, 100, 10, 0, 20);
        DUE.invokes("RETURNING passes a throw", x, 0, 66, THROWN, 6, 100, 66);
        DUE.invokes("RETURNING an exception is no result", with(4, 6, 1), 0, 66, THROWN, 6, 100, 66);
    }

    private static void throwing() {
        DUE.invokes("THROWING another", with(5, 3, 14), 0, 66, THROWN, 14, 100, 66, 0, 6);
        DUE.invokes("THROWING the same", with(5, 6, 0), 0, 66, THROWN, 6, 100, 66, 0, 6);
        DUE.invokes("THROWING not this one", with(5, 2, 14), 0, 66, THROWN, 6, 100, 66);
        DUE.invokes("THROWING not a finer one", with(5, 12, 14), 0, 66, THROWN, 6, 100, 66);
        DUE.invokes("THROWING nothing thrown", with(5, 6, 14), 0, 3, RETURNED, 6, 100, 3);
    }

    private static void lastly() {
        AdviceLinks x = with(6, 4, 13);
        DUE.invokes("FINALLY after a return", x, 0, 5, RETURNED, 10, 100, 5, 0, 5);
        DUE.invokes("FINALLY after a throw", x, 0, 66, THROWN, 6, 100, 66, 0, 66);
        DUE.invokes("FINALLY throws over a result", x, 0, 4, THROWN, 13, 100, 4, 0, 4);
        DUE.invokes("FINALLY throws over a throw", with(6, 66, 13), 0, 66, THROWN, 13, 100, 66, 0, 66);
    }

    private static void recover() {
        DUE.invokes("RECOVER", with(7, 6, -77), 0, 66, RETURNED, -77, 100, 66, 0, 6);
        DUE.invokes("RECOVER coarser", with(7, 1, 0), 0, 66, RETURNED, 0, 100, 66, 0, 6);
        DUE.invokes("RECOVER not this one", with(7, 7, 5), 0, 66, THROWN, 6, 100, 66);
        DUE.invokes("RECOVER nothing thrown", with(7, 6, 5), 0, 3, RETURNED, 6, 100, 3);
    }

    private static void exceptionsAreExceptions() {
        int[][] above = {
            {}, {1}, {2, 1}, {3, 1}, {4, 2, 1}, {5, 2, 1}, {6, 3, 1}, {7, 3, 1}, {8, 4, 2, 1}, {9, 4, 2, 1},
            {10, 5, 2, 1}, {11, 5, 2, 1}, {12, 6, 3, 1}, {13, 6, 3, 1}, {14, 7, 3, 1}, {15, 7, 3, 1}};
        for (int e = 1; e <= 15; e++) {
            for (int t = 1; t <= 15; t++) {
                boolean is = false;
                for (int exception : above[e]) {
                    is = is || exception == t;
                }
                AdviceLinks x = with(7, t, 50);
                x.fail(0, 0, 1, e);
                DUE.is("exception " + e + " is " + t, x.invoke(0, 1), is ? RETURNED : THROWN);
                DUE.is("exception " + e + " is " + t, x.result(), is ? 50 : e);
                DUE.is("exception " + e + " is " + t, x.events(), is ? 2 : 1);
            }
        }
    }

    private static void orderOfTheChain() {
        AdviceLinks x = new AdviceLinks();
        x.fail(0, 0, 5, 9);
        x.advise(7, 3, 1, 4, 70);
        x.advise(6, 1, 1, 0, 1);
        x.advise(4, 2, 1, 71, 2);
        x.advise(1, 3, 1, 2, 1000);
        x.advise(5, 4, 1, 9, 8);
        DUE.invokes("each on its way", x, 0, 3, RETURNED, 70, 3, 3, 100, 5, 4, 9, 0, 8, 2, 70, 1, 3);
        x.reorder(3, 0);
        DUE.invokes("reordered", x, 0, 3, RETURNED, 1070, 3, 3, 100, 5, 4, 9, 0, 8, 2, 70, 1, 5);
        x.reorder(0, 9);
        DUE.invokes("inside of THROWING", x, 0, 3, RETURNED, 1070, 3, 3, 100, 5, 0, 9, 2, 70, 1, 5);
    }

    private static void asked() {
        AdviceLinks x = new AdviceLinks();
        x.advise(3, 0, 1, 1, 0);
        x.advise(1, 1, 1, 10, 0);
        x.advise(1, 2, 3, 100, 0);
        DUE.invokes("16: no ranges", x, 1, 5, RETURNED, 105, 2, 5, 101, 105);
        DUE.is("16: no ranges", x.asked(), 0);
        x.when(1, 5, 5);
        x.when(2, 0, 5);
        DUE.invokes("16: in and out", x, 0, 5, RETURNED, 21, 0, 5, 1, 5, 100, 15, 100, 6);
        DUE.is("16: both, both times", x.asked(), 4);
        DUE.invokes("16: out and in", x, 0, 4, RETURNED, 119, 0, 4, 2, 4, 100, 104, 1, 5, 100, 15);
        DUE.is("16: both, both times", x.asked(), 4);
        DUE.invokes("16: only those of the chain", x, 1, 9, RETURNED, 9, 101, 9);
        DUE.is("16: only those of the chain", x.asked(), 1);
        x.calls(0, 1, 1);
        DUE.is("16: in each invocation", x.invoke(1, 8), THROWN);
        DUE.is("16: in each invocation", x.asked(), 3);
        x.advise(2, -1, 1, 9, 77);
        x.when(3, 0, 9);
        DUE.invokes("16: none behind one that keeps back", x, 0, 8, RETURNED, 77, 3, 8);
        DUE.is("16: none behind one that keeps back", x.asked(), 1);
    }

    private static void refusedInvokeChangesNothing() {
        AdviceLinks x = new AdviceLinks();
        x.advise(1, 0, 1, 1, 1);
        x.when(0, 0, 9);
        DUE.invokes("11", x, 0, 4, RETURNED, 6, 0, 4, 100, 5);
        int[] wrong = {-1, 6, 32, LOWEST, HIGHEST};
        for (int method : wrong) {
            DUE.is("11: invoke(" + method + ", 1)", x.invoke(method, 1), NONE);
            DUE.is("12: result() stays", x.result(), 6);
            DUE.is("13: events() stays", x.events(), 2);
            DUE.is("14: who(1) stays", x.who(1), 100);
            DUE.is("15: what(1) stays", x.what(1), 5);
            DUE.is("16: asked() stays", x.asked(), 1);
            DUE.is("17: taken() stays", x.taken(), 1);
        }
        AdviceLinks y = new AdviceLinks();
        DUE.is("11: refused first", y.invoke(6, 3), NONE);
        DUE.is("12: there was none", y.result(), 0);
        DUE.is("13: there was none", y.events(), 0);
        DUE.is("17: there was none", y.taken(), 0);
    }

    private static void noSuchEvent() {
        AdviceLinks x = new AdviceLinks();
        x.advise(3, 0, 1, 1, 1);
        DUE.invokes("three events", x, 0, 7, RETURNED, 16, 0, 7, 100, 7, 100, 8);
        DUE.invokes("one event after three", x, 1, 7, RETURNED, 7, 101, 7);
        int[] wrong = {-1, 1, 2, 99, 100, 101, LOWEST, HIGHEST};
        for (int i : wrong) {
            DUE.is("14: who(" + i + ")", x.who(i), NONE);
            DUE.is("15: what(" + i + ")", x.what(i), 0);
        }
    }

    /**
     * Five advisors (0 .. 4) of the kind TWICE, so that method 0 works on argument .. argument + 31,
     * each once and in rising order: 63 events. It calls method 1, and that calls method 2.
     */
    private static AdviceLinks ladder() {
        AdviceLinks x = new AdviceLinks();
        for (int i = 0; i < 5; i++) {
            x.advise(3, -i, 1, 1 << i, 0);
        }
        for (int target = 0; target < 2; target++) {
            x.calls(target, 0, 1);
            x.calls(target, 1, 2);
        }
        return x;
    }

    private static void outcome(String run, AdviceLinks x, int argument, int outcome, int result, int events) {
        DUE.is(run + ": invoke(0, " + argument + ")", x.invoke(0, argument), outcome);
        DUE.is(run + ": result()", x.result(), result);
        DUE.is(run + ": events()", x.events(), events);
    }

    private static void hundredEvents() {
        AdviceLinks x = ladder();
        outcome("BROKEN: not yet", x, -31, RETURNED, -496, 63);
        outcome("BROKEN: just a hundred", x, -12, RETURNED, 75, 100);
        DUE.is("BROKEN: the hundredth", x.who(99), 102);
        DUE.is("BROKEN: the hundredth", x.what(99), 17);
        DUE.is("BROKEN: none behind it", x.who(100), NONE);
        DUE.is("BROKEN: none behind it", x.what(100), 0);
        DUE.is("BROKEN: taken()", x.taken(), 38);
        outcome("BROKEN: two too many", x, -11, BROKEN, 0, 100);
        DUE.is("BROKEN: the hundredth", x.who(99), 100);
        DUE.is("BROKEN: the hundredth", x.what(99), 20);
        DUE.is("BROKEN: none behind it", x.who(100), NONE);
        DUE.is("BROKEN: none behind it", x.what(100), 0);
        DUE.is("BROKEN: the last began", x.taken(), 39);
        outcome("BROKEN: far too many", x, HIGHEST - 31, BROKEN, 0, 100);
        DUE.invokes("BROKEN: and then another", x, 3, 4, RETURNED, 4, 103, 4);
        DUE.is("BROKEN: taken()", x.taken(), 1);
    }

    private static void brokenIsNeitherCaughtNorFinished() {
        int[][] outermost = {{4, 0, 3}, {5, 1, 3}, {6, 50, 3}, {7, 1, 3}};
        for (int[] advisor : outermost) {
            AdviceLinks x = ladder();
            DUE.is("BROKEN: advise", x.advise(advisor[0], -9, 1, advisor[1], advisor[2]), 5);
            outcome("BROKEN: around it kind " + advisor[0], x, 50, BROKEN, 0, 100);
        }
    }

    private static void brokenByLateEvents() {
        int[][] outermost = {{4, 75, 3}, {5, 1, 3}, {6, -12, 3}, {7, 1, 3}};
        for (int[] advisor : outermost) {
            AdviceLinks x = ladder();
            x.advise(advisor[0], -9, 1, advisor[1], advisor[2]);
            if (advisor[0] == 5 || advisor[0] == 7) {
                outcome("BROKEN: nothing to note for kind " + advisor[0], x, -12, RETURNED, 75, 100);
                x.fail(0, 2, 17, 9);
            }
            outcome("BROKEN: the last event is of kind " + advisor[0], x, -12, BROKEN, 0, 100);
        }
    }

    private static void brokenInsideOthers() {
        int[][] innermost = {{0, 19, 3}, {1, 1, 1}, {2, 50, 3}, {3, 1, 3}};
        for (int[] advisor : innermost) {
            AdviceLinks x = ladder();
            x.advise(advisor[0], 0, 2, advisor[1], advisor[2]);
            x.when(5, 19, 19);
            outcome("BROKEN: the last event is of kind " + advisor[0], x, -11, BROKEN, 0, 100);
            DUE.is("BROKEN: the hundredth", x.who(99), 100);
            DUE.is("BROKEN: asked before", x.asked(), 20);
            DUE.is("BROKEN: taken before", x.taken(), 39);
        }
    }

    private static void brokenKeepsTurns() {
        AdviceLinks x = ladder();
        x.plan(1, 5, 1, 1000);
        x.source(2);
        outcome("BROKEN: in turn", x, -11, BROKEN, 0, 100);
        DUE.is("BROKEN: an odd number", x.taken(), 39);
        DUE.invokes("BROKEN: the turn goes on", x, 5, 1, RETURNED, 1001, 105, 1);
    }
}
