/** The boundaries of promises 2 (advise), 3 (when), 4 (reorder), 5 (remove), 6 (freeze) and 18 (chain). */
public final class AdvisorsEdgesTest {
    private static final int NONE = AdviceLinks.NONE;
    private static final int RETURNED = AdviceLinks.RETURNED;
    private static final int LOWEST = Integer.MIN_VALUE;
    private static final int HIGHEST = Integer.MAX_VALUE;
    private static final int[] ANY_INTS = {LOWEST, LOWEST + 1, -1, 0, 1, 15, 16, HIGHEST - 1, HIGHEST};
    private static final int[] NO_EXCEPTIONS = {LOWEST, -15, -1, 0, 16, 17, HIGHEST};
    /** The states in which advise() is refused for its arguments alone. */
    private static final State[] OPEN = {State.NEW, State.SOME};
    private static final Due DUE = new Due();
    private static final Refusal REFUSAL = new Refusal(DUE);

    public static void main(String[] args) {
        DUE.test("Promise 2: answers its number", AdvisorsEdgesTest::adviseAnswersItsNumber);
        DUE.test("Promise 2: makes an advisor without a range", AdvisorsEdgesTest::adviseMakesWithoutARange);
        DUE.test("Promise 2: NONE when frozen", AdvisorsEdgesTest::adviseWhenFrozen);
        DUE.test("Promise 2: NONE when six are there", AdvisorsEdgesTest::adviseWhenSixAreThere);
        DUE.test("Promise 2: NONE when kind is not 0 .. 7", AdvisorsEdgesTest::adviseKind);
        DUE.test("Promise 2: NONE when methods is not 1 .. 63", AdvisorsEdgesTest::adviseMethods);
        DUE.test("Promise 2: methods, the sum of 1 << m", AdvisorsEdgesTest::adviseSumOfMethods);
        DUE.test("Promise 2: b is an exception (1 .. 15) for the kinds 0, 4 and 6",
            AdvisorsEdgesTest::adviseExceptionB);
        DUE.test("Promise 2: a is an exception for 5 and 7", AdvisorsEdgesTest::adviseExceptionA);
        DUE.test("Promise 2: b is 0 or an exception for 5", AdvisorsEdgesTest::adviseZeroOrExceptionB);
        DUE.test("Promise 2: otherwise a and b are any ints", AdvisorsEdgesTest::adviseAnyInts);
        DUE.test("Promise 3: the range low .. high", AdvisorsEdgesTest::whenRangeHasItsEnds);
        DUE.test("Promise 3: in place of the one that it had", AdvisorsEdgesTest::whenInPlace);
        DUE.test("Promise 3: false when low is above high", AdvisorsEdgesTest::whenLowIsAboveHigh);
        DUE.test("Promise 3: false when there is no such advisor", AdvisorsEdgesTest::whenNoSuchAdvisor);
        DUE.test("Promise 3: false when frozen", AdvisorsEdgesTest::whenIsFrozen);
        DUE.test("Promise 4: true, also when it is the same", AdvisorsEdgesTest::reorderToTheSame);
        DUE.test("Promise 4: another order, any int", AdvisorsEdgesTest::reorderToAnyInt);
        DUE.test("Promise 4: false when there is no such advisor", AdvisorsEdgesTest::reorderNoSuchAdvisor);
        DUE.test("Promise 4: false when frozen", AdvisorsEdgesTest::reorderWhenFrozen);
        DUE.test("Promise 5: takes an advisor away", AdvisorsEdgesTest::removeUntilNoneIsThere);
        DUE.test("Promise 5: its number is not used again", AdvisorsEdgesTest::removedNumbers);
        DUE.test("Promise 5: false when there is no such advisor", AdvisorsEdgesTest::removeNoSuchAdvisor);
        DUE.test("Promise 5: false when frozen", AdvisorsEdgesTest::removeWhenFrozen);
        DUE.test("Promise 6: frozen from now on, or not", AdvisorsEdgesTest::freezeOnAndOff);
        DUE.test("Promise 6: what is not said to be refused when frozen", AdvisorsEdgesTest::freezeLeavesTheRest);
        DUE.test("Promise 18: at place i (from 0)", AdvisorsEdgesTest::chainPlaces);
        DUE.test("Promise 18: NONE when the chain has no such place", AdvisorsEdgesTest::chainNoSuchPlace);
        DUE.test("Promise 18: NONE when method is not 0 .. 5", AdvisorsEdgesTest::chainMethod);
        DUE.test("Promise 18: as it is now", AdvisorsEdgesTest::chainAsItIsNow);
        DUE.end();
    }

    private static void adviseAnswersItsNumber() {
        AdviceLinks x = new AdviceLinks();
        DUE.is("the first", x.advise(1, 0, 1, 0, 0), 0);
        DUE.is("refused", x.advise(8, 0, 1, 0, 0), NONE);
        DUE.is("the second", x.advise(1, 0, 1, 0, 0), 1);
    }

    private static void adviseMakesWithoutARange() {
        AdviceLinks x = new AdviceLinks();
        x.advise(1, 0, 1, 100, 0);
        x.when(0, 5, 5);
        x.remove(0);
        x.advise(1, 0, 1, 100, 0);
        int[] arguments = {LOWEST, 4, 5, 6, HIGHEST - 100};
        for (int argument : arguments) {
            DUE.invokes("no range", x, 0, argument, RETURNED, argument + 100, 1, argument, 100, argument + 100);
            DUE.is("not asked", x.asked(), 0);
        }
    }

    private static void adviseWhenFrozen() {
        REFUSAL.isNone("advise(1, 0, 1, 0, 0)", x -> x.advise(1, 0, 1, 0, 0), State.FROZEN);
        AdviceLinks y = State.FROZEN.make();
        y.freeze(false);
        DUE.is("no more frozen", y.advise(1, 0, 1, 0, 0), 5);
        AdviceLinks z = new AdviceLinks();
        z.freeze(true);
        DUE.is("frozen with none there", z.advise(1, 0, 1, 0, 0), NONE);
        DUE.chain("frozen with none there", z, 0);
    }

    private static void adviseWhenSixAreThere() {
        AdviceLinks x = new AdviceLinks();
        for (int i = 0; i < 5; i++) {
            x.advise(1, 0, 1, 0, 0);
        }
        DUE.is("the sixth", x.advise(1, 0, 32, 0, 0), 5);
        DUE.chain("the sixth", x, 5, 5);
        DUE.is("the seventh", x.advise(1, 0, 2, 0, 0), NONE);
        DUE.chain("the seventh", x, 1);
        for (int methods = 1; methods <= 63; methods = methods + 31) {
            int set = methods;
            REFUSAL.isNone("advise(1, 0, " + set + ", 0, 0)", y -> y.advise(1, 0, set, 0, 0), State.SIX, State.BROKEN);
        }
        AdviceLinks y = State.SIX.make();
        DUE.yes("one away", y.remove(4));
        DUE.is("six once more", y.advise(1, 0, 1, 0, 0), 7);
        DUE.is("and the seventh", y.advise(1, 0, 1, 0, 0), NONE);
    }

    private static void adviseKind() {
        int[] wrong = {LOWEST, -2, -1, 8, 9, HIGHEST};
        for (int kind : wrong) {
            REFUSAL.isNone("advise(" + kind + ", 0, 1, 1, 1)", x -> x.advise(kind, 0, 1, 1, 1), OPEN);
        }
        for (int kind = 0; kind <= 7; kind++) {
            DUE.is("kind " + kind, new AdviceLinks().advise(kind, 0, 1, 1, 1), 0);
            DUE.is("kind " + kind, State.SOME.make().advise(kind, 0, 1, 1, 1), 5);
        }
    }

    private static void adviseMethods() {
        int[] wrong = {LOWEST, LOWEST + 1, -64, -1, 0, 64, 65, 127, 128, HIGHEST};
        for (int methods : wrong) {
            REFUSAL.isNone("advise(1, 0, " + methods + ", 1, 1)", x -> x.advise(1, 0, methods, 1, 1), OPEN);
        }
        AdviceLinks x = new AdviceLinks();
        DUE.is("methods 1", x.advise(1, 0, 1, 0, 0), 0);
        DUE.is("methods 63", x.advise(1, 0, 63, 0, 0), 1);
        DUE.is("methods 32", x.advise(1, 0, 32, 0, 0), 2);
        DUE.chain("methods 1 and 63", x, 0, 0, 1);
        for (int method = 1; method < 5; method++) {
            DUE.chain("methods 63", x, method, 1);
        }
        DUE.chain("methods 63 and 32", x, 5, 1, 2);
    }

    private static void adviseSumOfMethods() {
        for (int methods = 1; methods <= 63; methods++) {
            AdviceLinks x = new AdviceLinks();
            DUE.is("methods " + methods, x.advise(1, 0, methods, 10, 0), 0);
            for (int method = 0; method < 6; method++) {
                boolean isIn = methods / (1 << method) % 2 == 1;
                DUE.is("methods " + methods + ": chain(" + method + ", 0)", x.chain(method, 0), isIn ? 0 : NONE);
                x.invoke(method, 1);
                DUE.is("methods " + methods + ": method " + method, x.result(), isIn ? 11 : 1);
            }
        }
    }

    private static void adviseExceptionB() {
        int[] kinds = {0, 4, 6};
        for (int kind : kinds) {
            for (int b : NO_EXCEPTIONS) {
                REFUSAL.isNone("advise(" + kind + ", 0, 1, 1, " + b + ")", x -> x.advise(kind, 0, 1, 1, b), OPEN);
            }
            for (int b = 1; b <= 15; b++) {
                AdviceLinks x = new AdviceLinks();
                DUE.is("kind " + kind + ", b " + b, x.advise(kind, 0, 1, 7, b), 0);
                DUE.is("kind " + kind + ", b " + b, x.invoke(0, 7), AdviceLinks.THROWN);
                DUE.is("kind " + kind + ", b " + b, x.result(), b);
            }
        }
    }

    private static void adviseExceptionA() {
        for (int a : NO_EXCEPTIONS) {
            REFUSAL.isNone("advise(5, 0, 1, " + a + ", 1)", x -> x.advise(5, 0, 1, a, 1), OPEN);
            REFUSAL.isNone("advise(5, 0, 1, " + a + ", 0)", x -> x.advise(5, 0, 1, a, 0), OPEN);
            REFUSAL.isNone("advise(7, 0, 1, " + a + ", 1)", x -> x.advise(7, 0, 1, a, 1), OPEN);
        }
        for (int a = 1; a <= 15; a++) {
            AdviceLinks x = new AdviceLinks();
            x.fail(0, 0, 0, a);
            DUE.is("kind 7, a " + a, x.advise(7, 1, 1, a, 99), 0);
            DUE.invokes("kind 7, a " + a, x, 0, 0, RETURNED, 99, 100, 0, 0, a);
            DUE.is("kind 5, a " + a, x.advise(5, 2, 1, a, 0), 1);
            DUE.invokes("kind 5, a " + a, x, 0, 0, RETURNED, 99, 100, 0, 1, a, 0, a);
        }
    }

    private static void adviseZeroOrExceptionB() {
        for (int b : NO_EXCEPTIONS) {
            if (b != 0) {
                REFUSAL.isNone("advise(5, 0, 1, 1, " + b + ")", x -> x.advise(5, 0, 1, 1, b), OPEN);
            }
        }
        for (int b = 0; b <= 15; b++) {
            AdviceLinks x = new AdviceLinks();
            x.fail(0, 0, 0, 6);
            DUE.is("kind 5, b " + b, x.advise(5, 0, 1, 1, b), 0);
            DUE.invokes("kind 5, b " + b, x, 0, 0, AdviceLinks.THROWN, b == 0 ? 6 : b, 100, 0, 0, 6);
        }
    }

    private static void adviseAnyInts() {
        for (int any : ANY_INTS) {
            for (int other : ANY_INTS) {
                DUE.is("kind 1", new AdviceLinks().advise(1, other, 1, any, other), 0);
                DUE.is("kind 2", new AdviceLinks().advise(2, any, 1, any, other), 0);
                DUE.is("kind 3", new AdviceLinks().advise(3, 0, 1, any, other), 0);
            }
            DUE.is("kind 0, any a", new AdviceLinks().advise(0, any, 1, any, 15), 0);
            DUE.is("kind 4, any a", new AdviceLinks().advise(4, any, 1, any, 1), 0);
            DUE.is("kind 6, any a", new AdviceLinks().advise(6, any, 1, any, 15), 0);
            DUE.is("kind 7, any b", new AdviceLinks().advise(7, any, 1, 15, any), 0);
        }
    }

    /** The advisor of withRange() acts, or is only asked. */
    private static void looksAtRange(AdviceLinks x, int argument, boolean isIn) {
        DUE.is("invoke(0, " + argument + ")", x.invoke(0, argument), RETURNED);
        DUE.is("invoke(0, " + argument + ") events()", x.events(), isIn ? 2 : 1);
        DUE.is("invoke(0, " + argument + ") result()", x.result(), isIn ? argument + 7 : argument);
        DUE.is("invoke(0, " + argument + ") asked()", x.asked(), 1);
    }

    private static AdviceLinks withRange(int low, int high) {
        AdviceLinks x = new AdviceLinks();
        x.advise(1, 0, 1, 7, 0);
        DUE.yes("when(0, " + low + ", " + high + ")", x.when(0, low, high));
        return x;
    }

    private static void whenRangeHasItsEnds() {
        int[][] ranges = {{-3, 4}, {0, 0}, {1, 2}, {-1, 0}, {LOWEST + 1, -1}, {0, HIGHEST - 1}};
        for (int[] range : ranges) {
            AdviceLinks x = withRange(range[0], range[1]);
            looksAtRange(x, range[0] - 1, false);
            looksAtRange(x, range[0], true);
            looksAtRange(x, range[1], true);
            looksAtRange(x, range[1] + 1, false);
            looksAtRange(x, LOWEST, false);
            looksAtRange(x, HIGHEST, false);
        }
        AdviceLinks all = withRange(LOWEST, HIGHEST);
        looksAtRange(all, LOWEST, true);
        looksAtRange(all, 0, true);
        looksAtRange(all, HIGHEST, true);
    }

    private static void whenInPlace() {
        AdviceLinks x = withRange(0, 4);
        DUE.yes("another", x.when(0, 5, 9));
        looksAtRange(x, 4, false);
        looksAtRange(x, 5, true);
        DUE.yes("the same once more", x.when(0, 5, 9));
        looksAtRange(x, 9, true);
        looksAtRange(x, 10, false);
    }

    private static void whenLowIsAboveHigh() {
        int[][] wrong = {{1, 0}, {0, -1}, {6, 5}, {HIGHEST, HIGHEST - 1}, {LOWEST + 1, LOWEST}, {HIGHEST, LOWEST}};
        for (int[] range : wrong) {
            for (int number = 2; number <= 4; number++) {
                int advisor = number;
                String call = "when(" + advisor + ", " + range[0] + ", " + range[1] + ")";
                REFUSAL.isFalse(call, x -> x.when(advisor, range[0], range[1]), State.SOME, State.SIX, State.BROKEN);
            }
        }
        looksAtRange(withRange(5, 5), 5, true);
        looksAtRange(withRange(HIGHEST, HIGHEST), HIGHEST, true);
        looksAtRange(withRange(HIGHEST, HIGHEST), LOWEST, false);
        looksAtRange(withRange(LOWEST, LOWEST), LOWEST, true);
        looksAtRange(withRange(LOWEST, LOWEST), HIGHEST, false);
    }

    private static void whenNoSuchAdvisor() {
        int[] notThere = {LOWEST, NONE, 7, 8, 100, HIGHEST};
        for (int advisor : notThere) {
            REFUSAL.isFalse("when(" + advisor + ", 1, 3)", x -> x.when(advisor, 1, 3), State.values());
        }
        REFUSAL.isFalse("when(1, 1, 3) of a removed one", x -> x.when(1, 1, 3), State.SOME, State.SIX);
        REFUSAL.isFalse("when(5, 1, 3) before it is made", x -> x.when(5, 1, 3), State.SOME);
        REFUSAL.isFalse("when(0, 1, 3) before it is made", x -> x.when(0, 1, 3), State.NEW);
        DUE.yes("the lowest that is there", State.SIX.make().when(0, 1, 3));
        DUE.yes("the highest that is there", State.SIX.make().when(6, 1, 3));
    }

    private static void whenIsFrozen() {
        for (int number = 0; number <= 4; number++) {
            int advisor = number;
            REFUSAL.isFalse("when(" + advisor + ", 1, 3)", x -> x.when(advisor, 1, 3), State.FROZEN);
        }
        AdviceLinks x = State.FROZEN.make();
        x.freeze(false);
        DUE.yes("no more frozen", x.when(0, 1, 3));
    }

    private static void reorderToTheSame() {
        AdviceLinks x = new AdviceLinks();
        x.advise(1, LOWEST, 1, 0, 0);
        x.advise(1, 3, 1, 0, 0);
        x.advise(1, 3, 1, 0, 0);
        x.advise(1, HIGHEST, 1, 0, 0);
        DUE.yes("the lowest", x.reorder(0, LOWEST));
        DUE.yes("one of two equal ones", x.reorder(1, 3));
        DUE.yes("the other of them", x.reorder(2, 3));
        DUE.yes("the highest", x.reorder(3, HIGHEST));
        DUE.chain("the same orders", x, 0, 0, 1, 2, 3);
    }

    private static void reorderToAnyInt() {
        AdviceLinks x = new AdviceLinks();
        for (int i = 0; i < 3; i++) {
            x.advise(1, i, 1, 0, 0);
        }
        DUE.yes("to the highest", x.reorder(0, HIGHEST));
        DUE.chain("to the highest", x, 0, 1, 2, 0);
        DUE.yes("to the lowest", x.reorder(2, LOWEST));
        DUE.chain("to the lowest", x, 0, 2, 1, 0);
        DUE.yes("one above the lowest", x.reorder(0, LOWEST + 1));
        DUE.chain("one above the lowest", x, 0, 2, 0, 1);
        DUE.yes("equal to the lowest", x.reorder(0, LOWEST));
        DUE.chain("equal to the lowest", x, 0, 0, 2, 1);
    }

    private static void reorderNoSuchAdvisor() {
        int[] notThere = {LOWEST, NONE, 7, 8, 100, HIGHEST};
        for (int advisor : notThere) {
            REFUSAL.isFalse("reorder(" + advisor + ", 2)", x -> x.reorder(advisor, 2), State.values());
        }
        REFUSAL.isFalse("reorder(1, 2) of a removed one", x -> x.reorder(1, 2), State.SOME, State.SIX);
        REFUSAL.isFalse("reorder(5, 2) before it is made", x -> x.reorder(5, 2), State.SOME);
        REFUSAL.isFalse("reorder(0, 2) before it is made", x -> x.reorder(0, 2), State.NEW);
        DUE.yes("the lowest that is there", State.SIX.make().reorder(0, 2));
        DUE.yes("the highest that is there", State.SIX.make().reorder(6, 2));
    }

    private static void reorderWhenFrozen() {
        int[] orders = {-3, 2, 4, 5, 8, 12, 13};
        for (int order : orders) {
            REFUSAL.isFalse("reorder(0, " + order + ")", x -> x.reorder(0, order), State.FROZEN);
            REFUSAL.isFalse("reorder(2, " + order + ")", x -> x.reorder(2, order), State.FROZEN);
            REFUSAL.isFalse("reorder(4, " + order + ")", x -> x.reorder(4, order), State.FROZEN);
        }
        AdviceLinks x = State.FROZEN.make();
        x.freeze(false);
        DUE.yes("no more frozen", x.reorder(0, 13));
        DUE.chain("no more frozen", x, 5, 3, 2, 4, 0);
    }

    private static void removeUntilNoneIsThere() {
        AdviceLinks x = new AdviceLinks();
        for (int i = 0; i < 6; i++) {
            x.advise(1, 0, 1, 1, 0);
        }
        DUE.yes("the first of six", x.remove(0));
        DUE.chain("the first of six", x, 0, 1, 2, 3, 4, 5);
        DUE.yes("the last", x.remove(5));
        DUE.chain("the last", x, 0, 1, 2, 3, 4);
        DUE.yes("one between", x.remove(2));
        DUE.chain("one between", x, 0, 1, 3, 4);
        DUE.yes("all but one", x.remove(1) && x.remove(3));
        DUE.invokes("all but one", x, 0, 5, RETURNED, 6, 4, 5, 100, 6);
        DUE.yes("the only one", x.remove(4));
        DUE.chain("the only one", x, 0);
        DUE.invokes("none is there", x, 0, 5, RETURNED, 5, 100, 5);
    }

    private static void removedNumbers() {
        AdviceLinks x = new AdviceLinks();
        for (int number = 0; number < 150; number++) {
            DUE.is("the only one", x.advise(1, 0, 1, 0, 0), number);
            DUE.yes("away", x.remove(number));
            DUE.no("away already", x.remove(number));
        }
        DUE.chain("all are away", x, 0);
        DUE.is("and one more", x.advise(1, 0, 1, 0, 0), 150);
        DUE.chain("and one more", x, 0, 150);
    }

    private static void removeNoSuchAdvisor() {
        int[] notThere = {LOWEST, NONE, 7, 8, 100, HIGHEST};
        for (int advisor : notThere) {
            REFUSAL.isFalse("remove(" + advisor + ")", x -> x.remove(advisor), State.values());
        }
        REFUSAL.isFalse("remove(1) of a removed one", x -> x.remove(1), State.SOME, State.SIX);
        REFUSAL.isFalse("remove(5) before it is made", x -> x.remove(5), State.SOME);
        REFUSAL.isFalse("remove(0) before it is made", x -> x.remove(0), State.NEW);
        DUE.yes("the lowest that is there", State.SIX.make().remove(0));
        DUE.yes("the highest that is there", State.SIX.make().remove(6));
    }

    private static void removeWhenFrozen() {
        for (int number = 0; number <= 4; number++) {
            int advisor = number;
            REFUSAL.isFalse("remove(" + advisor + ")", x -> x.remove(advisor), State.FROZEN);
        }
        AdviceLinks x = State.FROZEN.make();
        x.freeze(false);
        DUE.yes("no more frozen", x.remove(0));
        DUE.chain("no more frozen", x, 5, 3, 2, 4);
    }

    private static void freezeOnAndOff() {
        AdviceLinks x = new AdviceLinks();
        x.freeze(false);
        DUE.is("never frozen", x.advise(1, 0, 1, 0, 0), 0);
        x.freeze(true);
        DUE.is("frozen", x.advise(1, 0, 1, 0, 0), NONE);
        x.freeze(true);
        DUE.is("frozen twice", x.advise(1, 0, 1, 0, 0), NONE);
        x.freeze(false);
        DUE.is("off once", x.advise(1, 0, 1, 0, 0), 1);
        x.freeze(false);
        DUE.is("off twice", x.advise(1, 0, 1, 0, 0), 2);
        x.freeze(true);
        DUE.is("frozen again", x.advise(1, 0, 1, 0, 0), NONE);
    }

    private static void freezeLeavesTheRest() {
        AdviceLinks x = new AdviceLinks();
        x.advise(1, 0, 3, 0, 1000);
        x.freeze(true);
        DUE.yes("plan", x.plan(0, 0, 2, 3));
        DUE.yes("fail", x.fail(0, 1, 1, 4));
        DUE.yes("calls", x.calls(0, 0, 1));
        DUE.yes("source", x.source(0));
        DUE.invokes("invoke", x, 0, 1, RETURNED, 3003, 0, 1, 100, 1, 0, 0, 101, 0);
        DUE.invokes("invoke", x, 0, 2, AdviceLinks.THROWN, 4, 0, 2, 100, 2, 0, 1, 101, 1);
        DUE.chain("chain", x, 1, 0);
        x.plan(1, 5, 1, 1000);
        DUE.yes("source", x.source(2));
        DUE.invokes("target 0 in its turn", x, 5, 1, RETURNED, 1, 105, 1);
        x.freeze(true);
        DUE.invokes("target 1 in its turn", x, 5, 1, RETURNED, 1001, 105, 1);
        x.freeze(false);
        DUE.is("freeze leaves the latest invoke()", x.result(), 1001);
        DUE.is("freeze leaves the latest invoke()", x.events(), 1);
        DUE.invokes("target 0 again", x, 5, 1, RETURNED, 1, 105, 1);
    }

    private static void chainPlaces() {
        AdviceLinks x = State.SIX.make();
        DUE.chain("all six", x, 5, 5, 0, 3, 2, 4, 6);
        DUE.chain("those of method 0", x, 0, 0, 3, 4, 6);
        DUE.chain("those of method 1", x, 1, 0, 3, 2, 6);
        DUE.chain("none", new AdviceLinks(), 0);
    }

    private static void chainNoSuchPlace() {
        int[] wrong = {LOWEST, -6, -1, 6, 7, 31, 32, HIGHEST};
        for (int i : wrong) {
            REFUSAL.isNone("chain(5, " + i + ")", x -> x.chain(5, i), State.values());
        }
        REFUSAL.isNone("chain(0, 0) of an empty chain", x -> x.chain(0, 0), State.NEW);
        REFUSAL.isNone("chain(5, 4) of a chain of four", x -> x.chain(5, 4), State.SOME, State.FROZEN);
        DUE.is("the last of four", State.SOME.make().chain(5, 3), 4);
        DUE.is("the last of six", State.SIX.make().chain(5, 5), 6);
    }

    private static void chainMethod() {
        int[] wrong = {LOWEST, -1, 6, 7, 31, 32, 37, HIGHEST};
        for (int method : wrong) {
            for (int i = 0; i < 6; i = i + 5) {
                int place = i;
                REFUSAL.isNone("chain(" + method + ", " + i + ")", x -> x.chain(method, place), State.values());
            }
        }
        AdviceLinks x = new AdviceLinks();
        x.advise(1, 0, 63, 0, 0);
        DUE.is("method 0", x.chain(0, 0), 0);
        DUE.is("method 5", x.chain(5, 0), 0);
    }

    private static void chainAsItIsNow() {
        AdviceLinks x = new AdviceLinks();
        x.advise(1, 0, 2, 0, 0);
        DUE.chain("made", x, 1, 0);
        x.advise(1, -1, 2, 0, 0);
        DUE.chain("another made", x, 1, 1, 0);
        x.when(1, 5, 5);
        x.invoke(1, 9);
        DUE.chain("a range leaves none out", x, 1, 1, 0);
        x.reorder(1, 1);
        DUE.chain("reordered", x, 1, 0, 1);
        x.remove(0);
        DUE.chain("removed", x, 1, 1);
    }
}
