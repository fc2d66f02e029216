/**
 * States of an object in which a call is refused. Each holds as much as a refused call could spoil:
 * all advisors advise method 5, and what they, the targets and the trace hold differs everywhere.
 */
enum State {
    /** As the constructor leaves it. */
    NEW,
    /** The advisors 0, 2, 3 and 4 (1 was removed), all but 3 with ranges; source 2, target 1 is next. */
    SOME,
    /** SOME, and the advisors 5 and 6: six are there. */
    SIX,
    /** SOME, frozen. */
    FROZEN,
    /** The advisors 0 .. 5 with ranges, and the latest invoke() was BROKEN; source 1. */
    BROKEN;

    /** How many calls make() makes at most. */
    static final int CALLS = 60;

    AdviceLinks make() {
        AdviceLinks x = new AdviceLinks();
        if (this == BROKEN) {
            breakOff(x);
        } else if (this != NEW) {
            fill(x);
        }
        if (this == SIX) {
            x.advise(4, -1, 60, 9, 2);
            x.advise(5, 20, 63, 2, 0);
        }
        if (this == FROZEN) {
            x.freeze(true);
        }
        return x;
    }

    private static void fill(AdviceLinks x) {
        planBoth(x);
        x.calls(0, 0, 1);
        x.calls(1, 1, 2);
        x.calls(0, 2, 5);
        x.calls(1, 5, 4);
        x.advise(1, 4, 63, 1, 5);
        x.advise(0, 0, 63, 9, 9);
        x.advise(2, 8, 62, -2, 7);
        x.advise(6, 4, 47, 8, 3);
        x.advise(7, 12, 57, 4, 50);
        x.when(0, -5, 8);
        x.when(2, -4, 6);
        x.when(4, -1, 7);
        x.remove(1);
        x.source(2);
        x.invoke(0, 2);
    }

    private static void breakOff(AdviceLinks x) {
        for (int i = 0; i < 6; i++) {
            x.advise(3, 3 * i, 63, i, 0);
            x.when(i, -4, 30 + i);
        }
        x.plan(1, 5, 3, 4);
        x.calls(1, 0, 5);
        x.source(1);
        x.invoke(0, 7);
    }

    private static void planBoth(AdviceLinks x) {
        for (int target = 0; target < 2; target++) {
            for (int method = 0; method < 6; method++) {
                x.plan(target, method, 2 + method, 10 + 10 * target + method);
                x.fail(target, method, 4 + target, 1 + method + 6 * target);
            }
        }
    }
}
