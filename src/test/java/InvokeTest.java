/**
 * Ordinary uses of promises 11 (invoke), 12 (result), 13 (events), 14 (who), 15 (what) and
 * 16 (asked), with the eight kinds.
 */
public final class InvokeTest {
    private static final int RETURNED = AdviceLinks.RETURNED;
    private static final int THROWN = AdviceLinks.THROWN;
    private static final int LOWEST = Integer.MIN_VALUE;
    private static final int HIGHEST = Integer.MAX_VALUE;
    private static final Due DUE = new Due();

    public static void main(String[] args) {
        before();
        change();
        skip();
        twice();
        returning();
        throwing();
        lastly();
        recover();
        orderOfTheChain();
        asked();
        DUE.end();
    }

    /** A new object with one advisor of method 0, and a target that throws 6 at 66. */
    private static AdviceLinks with(int kind, int a, int b) {
        AdviceLinks x = new AdviceLinks();
        x.fail(0, 0, 66, 6);
        x.plan(0, 0, 2, 0);
        DUE.is("advise", x.advise(kind, 0, 1, a, b), 0);
        return x;
    }

    private static void before() {
        AdviceLinks x = with(0, 3, 11);
        DUE.invokes("BEFORE throws", x, 0, 3, THROWN, 11, 0, 3);
        DUE.invokes("BEFORE goes on", x, 0, 4, RETURNED, 8, 0, 4, 100, 4);
        DUE.invokes("BEFORE passes a throw", x, 0, 66, THROWN, 6, 0, 66, 100, 66);
        DUE.invokes("BEFORE only for its methods", x, 1, 3, RETURNED, 3, 101, 3);
    }

    private static void change() {
        AdviceLinks x = with(1, -3, 100);
        DUE.invokes("CHANGE", x, 0, 5, RETURNED, 104, 0, 5, 100, 2);
        DUE.invokes("CHANGE passes a throw", x, 0, 69, THROWN, 6, 0, 69, 100, 66);
        DUE.invokes("CHANGE wraps", with(1, 1, HIGHEST), 0, HIGHEST, RETURNED, HIGHEST, 0, HIGHEST, 100, LOWEST);
        DUE.invokes("CHANGE wraps", with(1, 0, HIGHEST), 0, 1, RETURNED, LOWEST + 1, 0, 1, 100, 1);
    }

    private static void skip() {
        AdviceLinks x = with(2, 4, -9);
        DUE.invokes("SKIP less", x, 0, 3, RETURNED, -9, 0, 3);
        DUE.invokes("SKIP lowest", x, 0, LOWEST, RETURNED, -9, 0, LOWEST);
        DUE.invokes("SKIP equal", x, 0, 4, RETURNED, 8, 0, 4, 100, 4);
        DUE.invokes("SKIP passes a throw", x, 0, 66, THROWN, 6, 0, 66, 100, 66);
        DUE.invokes("SKIP nothing is less", with(2, LOWEST, 1), 0, LOWEST, RETURNED, 0, 0, LOWEST, 100, LOWEST);
    }

    private static void twice() {
        AdviceLinks x = with(3, 5, 1000);
        DUE.invokes("TWICE", x, 0, 10, RETURNED, 1050, 0, 10, 100, 10, 100, 15);
        DUE.is("TWICE takes one target", x.taken(), 1);
        DUE.invokes("TWICE first throws", x, 0, 66, THROWN, 6, 0, 66, 100, 66);
        DUE.invokes("TWICE second throws", x, 0, 61, THROWN, 6, 0, 61, 100, 61, 100, 66);
        x.plan(0, 0, 1, 0);
        DUE.invokes("TWICE wraps", x, 0, HIGHEST, RETURNED, 1003, 0, HIGHEST, 100, HIGHEST, 100, LOWEST + 4);
    }

    private static void returning() {
        AdviceLinks x = with(4, 10, 12);
        DUE.invokes("RETURNING throws", x, 0, 5, THROWN, 12, 100, 5, 0, 10);
        DUE.invokes("RETURNING the argument is not the result", x, 0, 10, RETURNED, 20, 100, 10, 0, 20);
        DUE.invokes("RETURNING passes a throw", x, 0, 66, THROWN, 6, 100, 66);
        DUE.invokes("RETURNING an exception is no result", with(4, 6, 1), 0, 66, THROWN, 6, 100, 66);
    }

    private static void throwing() {
        DUE.invokes("THROWING another", with(5, 3, 14), 0, 66, THROWN, 14, 100, 66, 0, 6);
        DUE.invokes("THROWING the same", with(5, 6, 0), 0, 66, THROWN, 6, 100, 66, 0, 6);
        DUE.invokes("THROWING not this one", with(5, 2, 14), 0, 66, THROWN, 6, 100, 66);
        DUE.invokes("THROWING not a finer one", with(5, 12, 14), 0, 66, THROWN, 6, 100, 66);
        DUE.invokes("THROWING nothing thrown", with(5, 6, 14), 0, 3, RETURNED, 6, 100, 3);
    }

    private static void lastly() {
        AdviceLinks x = with(6, 4, 13);
        DUE.invokes("FINALLY after a return", x, 0, 5, RETURNED, 10, 100, 5, 0, 5);
        DUE.invokes("FINALLY after a throw", x, 0, 66, THROWN, 6, 100, 66, 0, 66);
        DUE.invokes("FINALLY throws over a result", x, 0, 4, THROWN, 13, 100, 4, 0, 4);
        DUE.invokes("FINALLY throws over a throw", with(6, 66, 13), 0, 66, THROWN, 13, 100, 66, 0, 66);
    }

    private static void recover() {
        DUE.invokes("RECOVER", with(7, 6, -77), 0, 66, RETURNED, -77, 100, 66, 0, 6);
        DUE.invokes("RECOVER coarser", with(7, 1, 0), 0, 66, RETURNED, 0, 100, 66, 0, 6);
        DUE.invokes("RECOVER not this one", with(7, 7, 5), 0, 66, THROWN, 6, 100, 66);
        DUE.invokes("RECOVER nothing thrown", with(7, 6, 5), 0, 3, RETURNED, 6, 100, 3);
    }

    private static void orderOfTheChain() {
        AdviceLinks x = new AdviceLinks();
        x.fail(0, 0, 5, 9);
        x.advise(7, 3, 1, 4, 70);
        x.advise(6, 1, 1, 0, 1);
        x.advise(4, 2, 1, 71, 2);
        x.advise(1, 3, 1, 2, 1000);
        x.advise(5, 4, 1, 9, 8);
        DUE.invokes("each on its way", x, 0, 3, RETURNED, 70, 3, 3, 100, 5, 4, 9, 0, 8, 2, 70, 1, 3);
        x.reorder(3, 0);
        DUE.invokes("reordered", x, 0, 3, RETURNED, 1070, 3, 3, 100, 5, 4, 9, 0, 8, 2, 70, 1, 5);
        x.reorder(0, 9);
        DUE.invokes("inside of THROWING", x, 0, 3, RETURNED, 1070, 3, 3, 100, 5, 0, 9, 2, 70, 1, 5);
    }

    private static void asked() {
        AdviceLinks x = new AdviceLinks();
        x.advise(3, 0, 1, 1, 0);
        x.advise(1, 1, 1, 10, 0);
        x.advise(1, 2, 3, 100, 0);
        DUE.invokes("16: no ranges", x, 1, 5, RETURNED, 105, 2, 5, 101, 105);
        DUE.is("16: no ranges", x.asked(), 0);
        x.when(1, 5, 5);
        x.when(2, 0, 5);
        DUE.invokes("16: in and out", x, 0, 5, RETURNED, 21, 0, 5, 1, 5, 100, 15, 100, 6);
        DUE.is("16: both, both times", x.asked(), 4);
        DUE.invokes("16: out and in", x, 0, 4, RETURNED, 119, 0, 4, 2, 4, 100, 104, 1, 5, 100, 15);
        DUE.is("16: both, both times", x.asked(), 4);
        DUE.invokes("16: only those of the chain", x, 1, 9, RETURNED, 9, 101, 9);
        DUE.is("16: only those of the chain", x.asked(), 1);
        x.calls(0, 1, 1);
        DUE.is("16: in each invocation", x.invoke(1, 8), THROWN);
        DUE.is("16: in each invocation", x.asked(), 3);
        x.advise(2, -1, 1, 9, 77);
        x.when(3, 0, 9);
        DUE.invokes("16: none behind one that keeps back", x, 0, 8, RETURNED, 77, 3, 8);
        DUE.is("16: none behind one that keeps back", x.asked(), 1);
    }
}
