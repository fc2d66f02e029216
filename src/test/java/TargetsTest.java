/** Ordinary uses of promises 7 (plan), 8 (fail), 9 (calls), 10 (source) and 17 (taken). */
public final class TargetsTest {
    private static final int NONE = AdviceLinks.NONE;
    private static final int RETURNED = AdviceLinks.RETURNED;
    private static final int THROWN = AdviceLinks.THROWN;
    private static final int LOWEST = Integer.MIN_VALUE;
    private static final int HIGHEST = Integer.MAX_VALUE;
    private static final Due DUE = new Due();

    public static void main(String[] args) {
        planSets();
        failSets();
        callsInvokes();
        callsThreeDeep();
        sourceCountsInnerInvocations();
        DUE.end();
    }

    private static void planSets() {
        AdviceLinks x = new AdviceLinks();
        for (int target = 0; target < 2; target++) {
            for (int method = 0; method < 6; method++) {
                DUE.yes("7: plan", x.plan(target, method, 2 + method, 100 * target + method));
            }
        }
        for (int target = 0; target < 2; target++) {
            x.source(target);
            for (int method = 0; method < 6; method++) {
                int due = (2 + method) * 9 + 100 * target + method;
                DUE.invokes("7", x, method, 9, RETURNED, due, 100 + method, 9);
            }
        }
        x.source(0);
        DUE.yes("7: again", x.plan(0, 3, HIGHEST, HIGHEST));
        DUE.invokes("7: wraps", x, 3, 3, RETURNED, -4, 103, 3);
        DUE.yes("7: zero", x.plan(0, 3, 0, -8));
        DUE.invokes("7: zero", x, 3, LOWEST, RETURNED, -8, 103, LOWEST);
    }

    private static void failSets() {
        AdviceLinks x = new AdviceLinks();
        DUE.yes("8: fail", x.fail(0, 2, 5, 15));
        DUE.yes("8: fail", x.fail(1, 2, -5, 1));
        DUE.invokes("8: at it", x, 2, 5, THROWN, 15, 102, 5);
        DUE.invokes("8: beside it", x, 2, 4, RETURNED, 4, 102, 4);
        DUE.invokes("8: the other target's", x, 2, -5, RETURNED, -5, 102, -5);
        DUE.invokes("8: another method", x, 1, 5, RETURNED, 5, 101, 5);
        x.source(1);
        DUE.invokes("8: target 1", x, 2, -5, THROWN, 1, 102, -5);
        DUE.invokes("8: target 1", x, 2, 5, RETURNED, 5, 102, 5);
        DUE.yes("8: another argument", x.fail(1, 2, LOWEST, 7));
        DUE.invokes("8: the old one is gone", x, 2, -5, RETURNED, -5, 102, -5);
        DUE.invokes("8: the new one", x, 2, LOWEST, THROWN, 7, 102, LOWEST);
    }

    private static void callsInvokes() {
        AdviceLinks x = new AdviceLinks();
        DUE.yes("9: calls", x.calls(0, 0, 5));
        DUE.yes("9: calls", x.calls(0, 5, NONE));
        x.plan(0, 0, 3, 1);
        x.plan(0, 5, 10, 2);
        x.advise(0, 0, 32, 6, 9);
        DUE.invokes("9: through the chain", x, 0, 5, RETURNED, 127, 100, 5, 0, 4, 105, 4);
        DUE.is("9: taken()", x.taken(), 2);
        DUE.invokes("9: throws the same", x, 0, 7, THROWN, 9, 100, 7, 0, 6);
        DUE.is("9: taken()", x.taken(), 2);
        x.fail(0, 0, 5, 4);
        DUE.invokes("9: fails first", x, 0, 5, THROWN, 4, 100, 5);
        DUE.is("9: taken()", x.taken(), 1);
        DUE.yes("9: none", x.calls(0, 0, NONE));
        DUE.invokes("9: none", x, 0, 7, RETURNED, 22, 100, 7);
        x.source(1);
        DUE.yes("9: target 1", x.calls(1, 2, 3));
        DUE.invokes("9: target 1", x, 2, 1, RETURNED, 0, 102, 1, 103, 0);
        x.source(0);
        DUE.invokes("9: target 0", x, 2, 1, RETURNED, 1, 102, 1);
    }

    private static void callsThreeDeep() {
        AdviceLinks x = new AdviceLinks();
        x.calls(0, 4, 4);
        x.plan(0, 4, 2, 1);
        DUE.invokes("9: three", x, 4, 2, RETURNED, 7, 104, 2, 104, 1, 104, 0);
        DUE.is("17: taken()", x.taken(), 3);
        DUE.invokes("9: four", x, 4, 3, THROWN, 15, 104, 3, 104, 2, 104, 1);
        DUE.is("17: the fourth takes none", x.taken(), 3);
        x.advise(7, 0, 16, 15, 100);
        DUE.invokes("9: recovered innermost", x, 4, 3, RETURNED, 403, 104, 3, 104, 2, 104, 1, 0, 15);
        x.advise(3, 1, 16, 0, 0);
        DUE.is("9: one after the other", x.invoke(4, 2), RETURNED);
        DUE.is("17: taken()", x.taken(), 7);
        DUE.is("17: refused", x.invoke(-1, 2), NONE);
        DUE.is("17: taken() stays", x.taken(), 7);
        x.advise(2, -1, 16, 9, 1);
        x.invoke(4, 2);
        DUE.is("17: taken though never worked on", x.taken(), 1);
    }

    private static void sourceCountsInnerInvocations() {
        AdviceLinks x = new AdviceLinks();
        x.calls(0, 0, 0);
        x.calls(1, 0, 0);
        x.plan(0, 0, 1, 1);
        x.plan(1, 0, 1, 100);
        x.source(2);
        DUE.invokes("10: 0 in 1 in 0", x, 0, 2, RETURNED, 102, 100, 2, 100, 1, 100, 0);
        DUE.invokes("10: 1", x, 0, 0, RETURNED, 100, 100, 0);
        DUE.invokes("10: too deep", x, 0, 5, THROWN, 15, 100, 5, 100, 4, 100, 3);
        DUE.invokes("10: the fourth took no turn", x, 0, 0, RETURNED, 100, 100, 0);
        x.advise(2, 0, 1, 50, 8);
        DUE.invokes("10: kept back", x, 0, 0, RETURNED, 8, 0, 0);
        x.remove(0);
        DUE.invokes("10: but its target was taken", x, 0, 0, RETURNED, 100, 100, 0);
    }
}
