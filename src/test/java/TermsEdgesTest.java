import java.util.Arrays;

/** The boundaries of the document's terms, but for the eight kinds and BROKEN. */
public final class TermsEdgesTest {
    private static final int NONE = AdviceLinks.NONE;
    private static final int RETURNED = AdviceLinks.RETURNED;
    private static final int THROWN = AdviceLinks.THROWN;
    private static final int LOWEST = Integer.MIN_VALUE;
    private static final int HIGHEST = Integer.MAX_VALUE;
    private static final Due DUE = new Due();
    private static final Refusal REFUSAL = new Refusal(DUE);

    public static void main(String[] args) {
        DUE.test("METHODS: 0 .. 5", TermsEdgesTest::methods);
        DUE.test("EXCEPTION, a number 1 .. 15", TermsEdgesTest::exceptions);
        DUE.test("Exception e IS exception t: one of e, e / 2, e / 4, ..", TermsEdgesTest::whichExceptionIsWhich);
        DUE.test("Exception e IS exception t: as long as it is above 0", TermsEdgesTest::noExceptionZero);
        DUE.test("Every exception is exception 1", TermsEdgesTest::everyExceptionIsException1);
        DUE.test("Products wrap as ints do: factor * x", TermsEdgesTest::productsWrap);
        DUE.test("Sums wrap as ints do: .. + addend", TermsEdgesTest::addendsWrap);
        DUE.test("Sums and products wrap: factor * y + addend", TermsEdgesTest::resultsOfNextWrap);
        DUE.test("Sums wrap: CHANGE, x + a and r + b", TermsEdgesTest::changesWrap);
        DUE.test("Sums wrap: TWICE, x + a and r + s + b", TermsEdgesTest::twiceWraps);
        DUE.test("TARGETS: 0 and 1", TermsEdgesTest::targets);
        DUE.test("WORKING: if it fails at x, it throws; otherwise the next method", TermsEdgesTest::failsBeforeNext);
        DUE.test("WORKING: if there is a next method and x is above 0", TermsEdgesTest::nextAboveZero);
        DUE.test("WORKING: if that throws, the target throws the same", TermsEdgesTest::nextThrows);
        DUE.test("SOURCE: 2 the invocations since the source was set", TermsEdgesTest::sinceTheSourceWasSet);
        DUE.test("SOURCE: in the order in which they begin", TermsEdgesTest::turnsInsideOthers);
        DUE.test("SOURCE: one that takes no target is left out", TermsEdgesTest::turnsWithoutTarget);
        DUE.test("ADVISORS: the numbers 0, 1, .. in the order in which they were made", TermsEdgesTest::numbers);
        DUE.test("ADVISORS: at most 6 are there at a time", TermsEdgesTest::atMostSix);
        DUE.test("CHAIN: the advisors whose set has the method", TermsEdgesTest::chainOfItsMethods);
        DUE.test("CHAIN: by rising order (any int)", TermsEdgesTest::chainByOrder);
        DUE.test("CHAIN: of equal orders the one with the lower number first", TermsEdgesTest::chainOfEqualOrders);
        DUE.test("INVOCATION: when three invocations are under way already", TermsEdgesTest::threeUnderWay);
        DUE.test("INVOCATION: .. one inside the other", TermsEdgesTest::oneInsideTheOther);
        DUE.test("INVOCATION: it throws exception 15", TermsEdgesTest::throws15);
        DUE.test("INVOCATION: .. and nothing else happens", TermsEdgesTest::nothingElseHappens);
        DUE.test("INVOCATION: otherwise it takes its target", TermsEdgesTest::takesItsTarget);
        DUE.test("GOING ALONG: at the end of the chain the target works on x", TermsEdgesTest::endOfTheChain);
        DUE.test("GOING ALONG: an empty chain", TermsEdgesTest::emptyChain);
        DUE.test("GOING ALONG: if the advisor there has a range, it is ASKED", TermsEdgesTest::askedIfThereIsARange);
        DUE.test("GOING ALONG: when x is not in it, and that is all", TermsEdgesTest::notInRange);
        DUE.test("GOING ALONG: from the next place with x", TermsEdgesTest::onToTheNextPlace);
        DUE.test("Where nothing is said of an exception it is thrown on", TermsEdgesTest::thrownOn);
        DUE.test("A call that is refused changes nothing", TermsEdgesTest::refusedCallsInARow);
        DUE.test("A call that is refused changes nothing: the states are as said", TermsEdgesTest::statesAreAsSaid);
        DUE.end();
    }

    private static void methods() {
        AdviceLinks x = new AdviceLinks();
        for (int method = 0; method <= 5; method++) {
            DUE.yes("plan", x.plan(0, method, 1, 10 * method));
            DUE.yes("fail", x.fail(0, method, 50, 1 + method));
            DUE.yes("calls", x.calls(0, method, NONE));
            DUE.is("advise", x.advise(1, 0, 1 << method, 0, 0), method);
        }
        for (int method = 0; method <= 5; method++) {
            DUE.invokes("each", x, method, 3, RETURNED, 3 + 10 * method, method, 3, 100 + method, 3);
            DUE.invokes("each", x, method, 50, THROWN, 1 + method, method, 50, 100 + method, 50);
            DUE.chain("each", x, method, method);
        }
        int[] wrong = {-1, 6};
        for (int method : wrong) {
            REFUSAL.isFalse("plan(0, " + method + ", 1, 1)", y -> y.plan(0, method, 1, 1), State.values());
            REFUSAL.isFalse("fail(0, " + method + ", 1, 1)", y -> y.fail(0, method, 1, 1), State.values());
            REFUSAL.isFalse("calls(0, " + method + ", 1)", y -> y.calls(0, method, 1), State.values());
            REFUSAL.isNone("invoke(" + method + ", 1)", y -> y.invoke(method, 1), State.values());
            REFUSAL.isNone("chain(" + method + ", 0)", y -> y.chain(method, 0), State.values());
        }
        REFUSAL.isFalse("calls(0, 0, 6)", y -> y.calls(0, 0, 6), State.values());
    }

    private static void exceptions() {
        AdviceLinks x = new AdviceLinks();
        for (int exception = 1; exception <= 15; exception++) {
            DUE.yes("fail", x.fail(0, 0, 1, exception));
            DUE.invokes("thrown", x, 0, 1, THROWN, exception, 100, 1);
        }
        DUE.no("fail with 16", x.fail(0, 0, 1, 16));
        DUE.no("fail with -1", x.fail(0, 0, 1, -1));
        DUE.invokes("as before", x, 0, 1, THROWN, 15, 100, 1);
    }

    /** An object whose target throws e at 1, with an advisor of that kind for the exceptions t. */
    private static AdviceLinks thrower(int e, int kind, int t, int b) {
        AdviceLinks x = new AdviceLinks();
        x.fail(0, 0, 1, e);
        DUE.is("advise", x.advise(kind, 0, 1, t, b), 0);
        return x;
    }

    private static void whichExceptionIsWhich() {
        int[][] are = {
            {}, {1}, {2, 1}, {3, 1}, {4, 2, 1}, {5, 2, 1}, {6, 3, 1}, {7, 3, 1}, {8, 4, 2, 1}, {9, 4, 2, 1},
            {10, 5, 2, 1}, {11, 5, 2, 1}, {12, 6, 3, 1}, {13, 6, 3, 1}, {14, 7, 3, 1}, {15, 7, 3, 1}};
        for (int e = 1; e <= 15; e++) {
            for (int t = 1; t <= 15; t++) {
                String run = "is " + e + " exception " + t;
                AdviceLinks recovering = thrower(e, 7, t, 50);
                AdviceLinks throwing = thrower(e, 5, t, 0);
                if (has(are[e], t)) {
                    DUE.invokes(run, recovering, 0, 1, RETURNED, 50, 100, 1, 0, e);
                    DUE.invokes(run, throwing, 0, 1, THROWN, e, 100, 1, 0, e);
                } else {
                    DUE.invokes(run, recovering, 0, 1, THROWN, e, 100, 1);
                    DUE.invokes(run, throwing, 0, 1, THROWN, e, 100, 1);
                }
            }
        }
    }

    private static boolean has(int[] row, int number) {
        for (int one : row) {
            if (one == number) {
                return true;
            }
        }
        return false;
    }

    private static void noExceptionZero() {
        REFUSAL.isNone("advise(5, 0, 1, 0, 1)", x -> x.advise(5, 0, 1, 0, 1), State.NEW, State.SOME);
        REFUSAL.isNone("advise(7, 0, 1, 0, 1)", x -> x.advise(7, 0, 1, 0, 1), State.NEW, State.SOME);
        DUE.invokes("1 is exception 1", thrower(1, 7, 1, 50), 0, 1, RETURNED, 50, 100, 1, 0, 1);
        for (int t = 2; t <= 15; t++) {
            DUE.invokes("1 is not exception " + t, thrower(1, 7, t, 50), 0, 1, THROWN, 1, 100, 1);
        }
    }

    private static void everyExceptionIsException1() {
        for (int e = 1; e <= 15; e++) {
            DUE.invokes("recovered", thrower(e, 7, 1, 50), 0, 1, RETURNED, 50, 100, 1, 0, e);
            DUE.invokes("seen", thrower(e, 5, 1, 0), 0, 1, THROWN, e, 100, 1, 0, e);
        }
    }

    private static AdviceLinks planned(int factor, int addend) {
        AdviceLinks x = new AdviceLinks();
        x.plan(0, 0, factor, addend);
        return x;
    }

    private static void productsWrap() {
        AdviceLinks x = planned(65536, 0);
        DUE.invokes("the last that does not", x, 0, 32767, RETURNED, 2147418112, 100, 32767);
        DUE.invokes("the first that wraps", x, 0, 32768, RETURNED, LOWEST, 100, 32768);
        DUE.invokes("to zero", x, 0, 65536, RETURNED, 0, 100, 65536);
        DUE.invokes("below, the last", x, 0, -32768, RETURNED, LOWEST, 100, -32768);
        DUE.invokes("below, the first", x, 0, -32769, RETURNED, 2147418112, 100, -32769);
        DUE.invokes("-1 times", planned(-1, 0), 0, LOWEST + 1, RETURNED, HIGHEST, 100, LOWEST + 1);
        DUE.invokes("-1 times the lowest", planned(-1, 0), 0, LOWEST, RETURNED, LOWEST, 100, LOWEST);
        DUE.invokes("highest times", planned(HIGHEST, 0), 0, HIGHEST, RETURNED, 1, 100, HIGHEST);
        DUE.invokes("lowest times", planned(LOWEST, 0), 0, 3, RETURNED, LOWEST, 100, 3);
    }

    private static void addendsWrap() {
        DUE.invokes("the last", planned(1, 1), 0, HIGHEST - 1, RETURNED, HIGHEST, 100, HIGHEST - 1);
        DUE.invokes("the first", planned(1, 1), 0, HIGHEST, RETURNED, LOWEST, 100, HIGHEST);
        DUE.invokes("below, the last", planned(1, -1), 0, LOWEST + 1, RETURNED, LOWEST, 100, LOWEST + 1);
        DUE.invokes("below, the first", planned(1, -1), 0, LOWEST, RETURNED, HIGHEST, 100, LOWEST);
        DUE.invokes("there and back", planned(2, 2), 0, HIGHEST, RETURNED, 0, 100, HIGHEST);
        DUE.invokes("lowest and lowest", planned(1, LOWEST), 0, LOWEST, RETURNED, 0, 100, LOWEST);
    }

    private static void resultsOfNextWrap() {
        AdviceLinks x = planned(2, 1);
        x.calls(0, 0, 1);
        DUE.invokes("the last", x, 0, 1073741824, RETURNED, HIGHEST, 100, 1073741824, 101, 1073741823);
        DUE.invokes("the first", x, 0, 1073741825, RETURNED, LOWEST + 1, 100, 1073741825, 101, 1073741824);
        DUE.invokes("the highest", x, 0, HIGHEST, RETURNED, -3, 100, HIGHEST, 101, HIGHEST - 1);
    }

    private static AdviceLinks advised(int kind, int a, int b) {
        AdviceLinks x = new AdviceLinks();
        DUE.is("advise", x.advise(kind, 0, 1, a, b), 0);
        return x;
    }

    private static void changesWrap() {
        AdviceLinks up = advised(1, 1, 0);
        DUE.invokes("x + a, the last", up, 0, HIGHEST - 1, RETURNED, HIGHEST, 0, HIGHEST - 1, 100, HIGHEST);
        DUE.invokes("x + a, the first", up, 0, HIGHEST, RETURNED, LOWEST, 0, HIGHEST, 100, LOWEST);
        AdviceLinks down = advised(1, -1, 0);
        DUE.invokes("x + a below, the last", down, 0, LOWEST + 1, RETURNED, LOWEST, 0, LOWEST + 1, 100, LOWEST);
        DUE.invokes("x + a below, the first", down, 0, LOWEST, RETURNED, HIGHEST, 0, LOWEST, 100, HIGHEST);
        AdviceLinks more = advised(1, 0, 1);
        DUE.invokes("r + b, the last", more, 0, HIGHEST - 1, RETURNED, HIGHEST, 0, HIGHEST - 1, 100, HIGHEST - 1);
        DUE.invokes("r + b, the first", more, 0, HIGHEST, RETURNED, LOWEST, 0, HIGHEST, 100, HIGHEST);
        AdviceLinks less = advised(1, 0, -1);
        DUE.invokes("r + b below, the last", less, 0, LOWEST + 1, RETURNED, LOWEST, 0, LOWEST + 1, 100, LOWEST + 1);
        DUE.invokes("r + b below, the first", less, 0, LOWEST, RETURNED, HIGHEST, 0, LOWEST, 100, LOWEST);
    }

    private static void twiceWraps() {
        AdviceLinks up = advised(3, 1, 0);
        DUE.invokes("x + a, the first", up, 0, HIGHEST, RETURNED, -1, 0, HIGHEST, 100, HIGHEST, 100, LOWEST);
        AdviceLinks same = advised(3, 0, 0);
        DUE.invokes("r + s, the last", same, 0, 1073741823, RETURNED, HIGHEST - 1,
            0, 1073741823, 100, 1073741823, 100, 1073741823);
        DUE.invokes("r + s, the first", same, 0, 1073741824, RETURNED, LOWEST,
            0, 1073741824, 100, 1073741824, 100, 1073741824);
        DUE.invokes("r + s + b, the last", advised(3, 0, 1), 0, 1073741823, RETURNED, HIGHEST,
            0, 1073741823, 100, 1073741823, 100, 1073741823);
        DUE.invokes("r + s + b, the first", advised(3, 0, 2), 0, 1073741823, RETURNED, LOWEST,
            0, 1073741823, 100, 1073741823, 100, 1073741823);
        DUE.invokes("there and back", advised(3, 0, -1), 0, 1073741824, RETURNED, HIGHEST,
            0, 1073741824, 100, 1073741824, 100, 1073741824);
    }

    private static void targets() {
        AdviceLinks x = new AdviceLinks();
        DUE.yes("plan 0", x.plan(0, 0, 1, 10));
        DUE.yes("plan 1", x.plan(1, 0, 1, 11));
        DUE.no("plan -1", x.plan(-1, 0, 1, 12));
        DUE.no("plan 2", x.plan(2, 0, 1, 12));
        DUE.invokes("target 0", x, 0, 0, RETURNED, 10, 100, 0);
        x.source(1);
        DUE.invokes("target 1", x, 0, 0, RETURNED, 11, 100, 0);
    }

    private static void failsBeforeNext() {
        AdviceLinks x = new AdviceLinks();
        x.calls(0, 0, 1);
        x.fail(0, 0, 5, 9);
        DUE.invokes("below", x, 0, 4, RETURNED, 3, 100, 4, 101, 3);
        DUE.invokes("at it", x, 0, 5, THROWN, 9, 100, 5);
        DUE.is("at it", x.taken(), 1);
        DUE.invokes("above", x, 0, 6, RETURNED, 5, 100, 6, 101, 5);
        DUE.is("above", x.taken(), 2);
    }

    private static void nextAboveZero() {
        AdviceLinks x = new AdviceLinks();
        x.plan(0, 0, 10, 3);
        x.calls(0, 0, 1);
        DUE.invokes("the lowest", x, 0, LOWEST, RETURNED, 3, 100, LOWEST);
        DUE.invokes("-1", x, 0, -1, RETURNED, -7, 100, -1);
        DUE.invokes("0", x, 0, 0, RETURNED, 3, 100, 0);
        DUE.is("0", x.taken(), 1);
        DUE.invokes("1", x, 0, 1, RETURNED, 3, 100, 1, 101, 0);
        DUE.is("1", x.taken(), 2);
        DUE.invokes("2", x, 0, 2, RETURNED, 13, 100, 2, 101, 1);
        DUE.invokes("the highest", x, 0, HIGHEST, RETURNED, -17, 100, HIGHEST, 101, HIGHEST - 1);
        x.calls(0, 0, NONE);
        DUE.invokes("1, and no next method", x, 0, 1, RETURNED, 13, 100, 1);
        DUE.is("1, and no next method", x.taken(), 1);
    }

    private static void nextThrows() {
        AdviceLinks x = new AdviceLinks();
        x.plan(0, 0, 10, 3);
        x.calls(0, 0, 1);
        for (int exception = 1; exception <= 15; exception++) {
            x.fail(0, 1, 7, exception);
            DUE.invokes("the same", x, 0, 8, THROWN, exception, 100, 8, 101, 7);
        }
        DUE.invokes("it returns", x, 0, 7, RETURNED, 63, 100, 7, 101, 6);
        DUE.invokes("it returns", x, 0, 9, RETURNED, 83, 100, 9, 101, 8);
    }

    /** Target 1 adds 1000, and method m calls method m + 1 up to method 4; method 5 stands alone. */
    private static AdviceLinks stairs() {
        AdviceLinks x = new AdviceLinks();
        for (int target = 0; target < 2; target++) {
            for (int method = 0; method < 6; method++) {
                x.plan(target, method, 1, 1000 * target);
                x.calls(target, method, method < 4 ? method + 1 : NONE);
            }
        }
        return x;
    }

    private static void takesNext(String run, AdviceLinks x, int target) {
        DUE.invokes(run, x, 5, 0, RETURNED, 1000 * target, 105, 0);
    }

    private static void sinceTheSourceWasSet() {
        AdviceLinks x = stairs();
        takesNext("source 0", x, 0);
        x.source(2);
        takesNext("those before are not among them", x, 0);
        takesNext("the second", x, 1);
        takesNext("the third", x, 0);
        x.source(1);
        takesNext("source 1", x, 1);
        x.source(2);
        takesNext("set again", x, 0);
    }

    private static void turnsInsideOthers() {
        AdviceLinks x = stairs();
        x.source(2);
        DUE.invokes("0 takes 0, 1 takes 1", x, 0, 1, RETURNED, 1000, 100, 1, 101, 0);
        takesNext("then", x, 0);
        DUE.invokes("0 takes 1, 1 takes 0, 2 takes 1", x, 0, 2, RETURNED, 2000, 100, 2, 101, 1, 102, 0);
        takesNext("then", x, 0);
        x.advise(3, 0, 1, 0, 0);
        DUE.invokes("0 takes 1, once; 1 takes 0 and 1", x, 0, 1, RETURNED, 3000,
            0, 1, 100, 1, 101, 0, 100, 1, 101, 0);
        takesNext("then", x, 0);
    }

    private static void turnsWithoutTarget() {
        AdviceLinks x = stairs();
        x.source(2);
        DUE.invokes("three, and a fourth", x, 0, 3, THROWN, 15, 100, 3, 101, 2, 102, 1);
        takesNext("the fourth is left out", x, 1);
        DUE.is("refused", x.invoke(6, 0), NONE);
        takesNext("a refused one is left out", x, 0);
        x.advise(2, 0, 1, 9, 77);
        DUE.invokes("kept back", x, 0, 3, RETURNED, 77, 0, 3);
        takesNext("one that is kept back has taken its target", x, 0);
    }

    private static void numbers() {
        AdviceLinks x = new AdviceLinks();
        int[] orders = {5, -5, HIGHEST, LOWEST, 0, 5};
        for (int i = 0; i < 6; i++) {
            DUE.is("by the making, not by the order", x.advise(1, orders[i], 63, 0, 0), i);
        }
        x.remove(2);
        x.remove(0);
        DUE.is("the seventh", x.advise(1, 0, 63, 0, 0), 6);
        DUE.is("the eighth", x.advise(1, 0, 63, 0, 0), 7);
    }

    private static void atMostSix() {
        AdviceLinks x = new AdviceLinks();
        for (int i = 0; i < 6; i++) {
            DUE.is("six of one method", x.advise(1, 0, 1, 1, 0), i);
        }
        DUE.is("a seventh of another method", x.advise(1, 0, 2, 0, 0), NONE);
        DUE.invokes("all six act", x, 0, 0, RETURNED, 6, 0, 0, 1, 1, 2, 2, 3, 3, 4, 4, 5, 5, 100, 6);
        AdviceLinks y = new AdviceLinks();
        for (int i = 0; i < 6; i++) {
            DUE.is("one of each method", y.advise(1, 0, 1 << i, 0, 0), i);
        }
        DUE.is("a seventh", y.advise(1, 0, 63, 0, 0), NONE);
        for (int number = 0; number < 20; number++) {
            DUE.yes("one away", y.remove(number));
            DUE.is("five are there", y.advise(1, 0, 63, 0, 0), number + 6);
            DUE.is("six are there", y.advise(1, 0, 63, 0, 0), NONE);
        }
    }

    private static void chainOfItsMethods() {
        AdviceLinks x = new AdviceLinks();
        x.advise(1, 0, 1, 1, 0);
        x.advise(1, 0, 32, 10, 0);
        x.advise(1, 0, 33, 100, 0);
        x.advise(1, 0, 30, 1000, 0);
        DUE.chain("method 0", x, 0, 0, 2);
        DUE.chain("method 1", x, 1, 3);
        DUE.chain("method 4", x, 4, 3);
        DUE.chain("method 5", x, 5, 1, 2);
        DUE.invokes("method 0", x, 0, 0, RETURNED, 101, 0, 0, 2, 1, 100, 101);
        DUE.invokes("method 4", x, 4, 0, RETURNED, 1000, 3, 0, 104, 1000);
        DUE.invokes("method 5", x, 5, 0, RETURNED, 110, 1, 0, 2, 10, 105, 110);
    }

    private static void chainByOrder() {
        AdviceLinks x = new AdviceLinks();
        int[] orders = {HIGHEST, LOWEST, 0, -1, 1, LOWEST + 1};
        for (int order : orders) {
            x.advise(1, order, 1, 1, 0);
        }
        DUE.chain("all", x, 0, 1, 5, 3, 2, 4, 0);
        DUE.invokes("all", x, 0, 0, RETURNED, 6, 1, 0, 5, 1, 3, 2, 2, 3, 4, 4, 0, 5, 100, 6);
    }

    private static void chainOfEqualOrders() {
        int[] orders = {LOWEST, 0, HIGHEST};
        for (int order : orders) {
            AdviceLinks x = new AdviceLinks();
            x.advise(1, order, 1, 0, 0);
            x.advise(1, 5, 1, 0, 0);
            x.advise(1, order, 1, 0, 0);
            x.advise(1, -5, 1, 0, 0);
            DUE.yes("from above", x.reorder(1, order));
            DUE.yes("from below", x.reorder(3, order));
            DUE.is("made last", x.advise(1, order, 1, 0, 0), 4);
            DUE.chain("all equal", x, 0, 0, 1, 2, 3, 4);
            x.remove(1);
            DUE.is("made later than all", x.advise(1, order, 1, 0, 0), 5);
            DUE.chain("still", x, 0, 0, 2, 3, 4, 5);
            DUE.yes("one away and back", x.reorder(2, 5) && x.reorder(2, order));
            DUE.chain("still", x, 0, 0, 2, 3, 4, 5);
        }
    }

    private static void threeUnderWay() {
        AdviceLinks x = stairs();
        DUE.invokes("one", x, 0, 0, RETURNED, 0, 100, 0);
        DUE.invokes("two", x, 0, 1, RETURNED, 0, 100, 1, 101, 0);
        DUE.invokes("three", x, 0, 2, RETURNED, 0, 100, 2, 101, 1, 102, 0);
        for (int i = 0; i < 4; i++) {
            DUE.invokes("four", x, 0, 3, THROWN, 15, 100, 3, 101, 2, 102, 1);
        }
        DUE.invokes("three again", x, 0, 2, RETURNED, 0, 100, 2, 101, 1, 102, 0);
        DUE.invokes("three that have no fourth", x, 2, 9, RETURNED, 7, 102, 9, 103, 8, 104, 7);
        x.calls(0, 4, 4);
        DUE.invokes("a fourth of the same method", x, 4, 9, THROWN, 15, 104, 9, 104, 8, 104, 7);
    }

    private static void oneInsideTheOther() {
        AdviceLinks x = stairs();
        x.advise(3, 0, 3, 0, 0);
        DUE.invokes("seven, but never four at a time", x, 0, 2, RETURNED, 0,
            0, 2, 100, 2, 0, 1, 101, 1, 102, 0, 101, 1, 102, 0,
            100, 2, 0, 1, 101, 1, 102, 0, 101, 1, 102, 0);
        DUE.is("seven", x.taken(), 7);
        DUE.invokes("a fourth", x, 0, 3, THROWN, 15, 0, 3, 100, 3, 0, 2, 101, 2, 102, 1);
        DUE.is("a fourth", x.taken(), 3);
    }

    private static void throws15() {
        int[] is15 = {15, 7, 3, 1};
        for (int t = 1; t <= 15; t++) {
            AdviceLinks x = stairs();
            x.advise(7, 0, 4, t, 50);
            if (has(is15, t)) {
                DUE.invokes("caught", x, 0, 3, RETURNED, 50, 100, 3, 101, 2, 102, 1, 0, 15);
            } else {
                DUE.invokes("not caught", x, 0, 3, THROWN, 15, 100, 3, 101, 2, 102, 1);
            }
        }
    }

    private static void nothingElseHappens() {
        for (int kind = 0; kind < 8; kind++) {
            AdviceLinks x = stairs();
            x.advise(kind, 0, 8, 1, 1);
            x.when(0, LOWEST, HIGHEST);
            DUE.invokes("the fourth's chain, kind " + kind, x, 0, 3, THROWN, 15, 100, 3, 101, 2, 102, 1);
            DUE.is("not asked", x.asked(), 0);
            DUE.is("no target is taken", x.taken(), 3);
            x.invoke(1, 3);
            DUE.is("the third's chain is gone along", x.asked(), 1);
            DUE.is("the third takes one", x.taken(), 3);
        }
    }

    private static void takesItsTarget() {
        AdviceLinks x = stairs();
        x.advise(2, 0, 1, 5, 77);
        x.advise(0, 0, 1, 6, 2);
        DUE.invokes("kept back", x, 0, 4, RETURNED, 77, 0, 4);
        DUE.is("taken all the same", x.taken(), 1);
        DUE.invokes("thrown before", x, 0, 6, THROWN, 2, 0, 6, 1, 6);
        DUE.is("taken all the same", x.taken(), 1);
        x.advise(3, -1, 2, 0, 0);
        DUE.invokes("worked twice", x, 1, 0, RETURNED, 0, 2, 0, 101, 0, 101, 0);
        DUE.is("taken once", x.taken(), 1);
    }

    private static void endOfTheChain() {
        AdviceLinks x = new AdviceLinks();
        for (int number = 0; number < 6; number++) {
            x.advise(1, 0, 1, 10, 0);
            DUE.invokes("behind the last", x, 0, -10 * number, RETURNED, 10, traceOfChanges(number));
        }
        for (int number = 5; number >= 0; number--) {
            DUE.yes("the last away", x.remove(number));
            x.invoke(0, 3);
            DUE.is("behind those that are left", x.result(), 3 + 10 * number);
            DUE.is("behind those that are left", x.who(number), 100);
            DUE.is("and that is all", x.events(), number + 1);
        }
    }

    /** The advisors 0 .. last add 10 each, from -10 * last on, and the target comes behind them. */
    private static int[] traceOfChanges(int last) {
        int[] trace = new int[2 * (last + 2)];
        for (int i = 0; i <= last + 1; i++) {
            trace[2 * i] = i <= last ? i : 100;
            trace[2 * i + 1] = 10 * (i - last);
        }
        return trace;
    }

    private static void emptyChain() {
        AdviceLinks x = new AdviceLinks();
        DUE.invokes("no advisor is there", x, 3, 8, RETURNED, 8, 103, 8);
        x.advise(0, 0, 55, 8, 1);
        DUE.invokes("none of the method", x, 3, 8, RETURNED, 8, 103, 8);
        DUE.invokes("one of the method", x, 2, 8, THROWN, 1, 0, 8);
        x.remove(0);
        DUE.invokes("none any more", x, 2, 8, RETURNED, 8, 102, 8);
    }

    private static void askedIfThereIsARange() {
        AdviceLinks x = new AdviceLinks();
        x.advise(1, 0, 1, 0, 0);
        x.advise(1, 1, 1, 0, 0);
        x.invoke(0, 5);
        DUE.is("no ranges", x.asked(), 0);
        x.when(0, 5, 5);
        x.invoke(0, 5);
        DUE.is("one range, x in it", x.asked(), 1);
        x.invoke(0, 6);
        DUE.is("one range, x not in it", x.asked(), 1);
        x.when(1, LOWEST, HIGHEST);
        x.invoke(0, 6);
        DUE.is("two ranges", x.asked(), 2);
        x.invoke(1, 5);
        DUE.is("of another method", x.asked(), 0);
        x.advise(0, -1, 1, 6, 1);
        x.invoke(0, 6);
        DUE.is("behind one that throws", x.asked(), 0);
        x.invoke(0, 5);
        DUE.is("behind one that goes on", x.asked(), 2);
        x.remove(2);
        x.advise(3, -1, 1, 1, 0);
        x.invoke(0, 5);
        DUE.is("twice", x.asked(), 4);
    }

    /** An object that returns 4 at 4 and throws 6 at 5, with an advisor that acts at one of them. */
    private static AdviceLinks ranged(int kind, int a, int b, int low, int high) {
        AdviceLinks x = advised(kind, a, b);
        x.fail(0, 0, 5, 6);
        DUE.yes("when", x.when(0, low, high));
        return x;
    }

    private static void notInRange() {
        int[][] kinds = {{0, 4, 3}, {1, 10, 20}, {2, 9, 77}, {3, 10, 0}, {4, 4, 3}, {5, 3, 2}, {6, 4, 3}, {7, 6, 50}};
        int[][] comes = {
            {THROWN, 3, 0, 4}, {RETURNED, 34, 0, 4, 100, 14}, {RETURNED, 77, 0, 4},
            {RETURNED, 18, 0, 4, 100, 4, 100, 14}, {THROWN, 3, 100, 4, 0, 4}, {THROWN, 2, 100, 5, 0, 6},
            {THROWN, 3, 100, 4, 0, 4}, {RETURNED, 50, 100, 5, 0, 6}};
        for (int i = 0; i < kinds.length; i++) {
            int kind = kinds[i][0];
            int a = kinds[i][1];
            int b = kinds[i][2];
            int at = kind == 5 || kind == 7 ? 5 : 4;
            int[] trace = Arrays.copyOfRange(comes[i], 2, comes[i].length);
            DUE.invokes("at low", ranged(kind, a, b, at, at + 9), 0, at, comes[i][0], comes[i][1], trace);
            DUE.invokes("at high", ranged(kind, a, b, at - 9, at), 0, at, comes[i][0], comes[i][1], trace);
            passesBy(ranged(kind, a, b, at + 1, at + 9), at);
            passesBy(ranged(kind, a, b, at - 9, at - 1), at);
        }
    }

    private static void passesBy(AdviceLinks x, int at) {
        DUE.invokes("not in its range", x, 0, at, at == 5 ? THROWN : RETURNED, at == 5 ? 6 : 4, 100, at);
        DUE.is("but asked", x.asked(), 1);
    }

    private static void onToTheNextPlace() {
        AdviceLinks x = new AdviceLinks();
        x.plan(0, 0, 100, 0);
        x.advise(1, 0, 1, 10, 0);
        x.advise(4, 1, 1, 0, 1);
        x.advise(1, 2, 1, 1, 0);
        x.when(0, 5, 5);
        x.when(1, 15, 15);
        DUE.invokes("x as it is there", x, 0, 5, RETURNED, 1600, 0, 5, 2, 15, 100, 16, 1, 1600);
        DUE.invokes("neither in its range", x, 0, 4, RETURNED, 500, 2, 4, 100, 5);
        DUE.invokes("only the second", x, 0, 15, RETURNED, 1600, 2, 15, 100, 16, 1, 1600);
        x.when(1, 1600, 1600);
        DUE.invokes("x, not r", x, 0, 5, RETURNED, 1600, 0, 5, 2, 15, 100, 16);
        x.when(2, 99, 99);
        DUE.invokes("the last not in its range", x, 0, 5, RETURNED, 1500, 0, 5, 100, 15);
        DUE.is("all three", x.asked(), 3);
    }

    private static void thrownOn() {
        int[][] early = {{0, 9, 1}, {1, 0, 100}, {2, 0, 1}, {3, 0, 100}};
        for (int[] advisor : early) {
            AdviceLinks x = advised(advisor[0], advisor[1], advisor[2]);
            x.fail(0, 0, 5, 6);
            DUE.invokes("kind " + advisor[0], x, 0, 5, THROWN, 6, 0, 5, 100, 5);
        }
        int[][] late = {{4, 6, 1}, {5, 7, 1}, {7, 7, 1}};
        for (int[] advisor : late) {
            AdviceLinks x = advised(advisor[0], advisor[1], advisor[2]);
            x.fail(0, 0, 5, 6);
            DUE.invokes("kind " + advisor[0], x, 0, 5, THROWN, 6, 100, 5);
        }
        AdviceLinks x = advised(6, 6, 1);
        x.fail(0, 0, 5, 6);
        DUE.invokes("kind 6", x, 0, 5, THROWN, 6, 100, 5, 0, 5);
    }

    private static void refusedCallsInARow() {
        REFUSAL.isFalse("each call, refused for each of its arguments", TermsEdgesTest::takesAny, State.values());
        AdviceLinks x = State.SIX.make();
        DUE.no("each call", takesAny(x));
        DUE.is("taken()", x.taken(), 3);
        DUE.is("result()", x.result(), 15);
        DUE.chain("the chain", x, 5, 5, 0, 3, 2, 4, 6);
    }

    private static void statesAreAsSaid() {
        DUE.chain("NEW", State.NEW.make(), 5);
        AdviceLinks some = State.SOME.make();
        DUE.chain("SOME", some, 5, 0, 3, 2, 4);
        DUE.is("SOME: an odd number of turns", some.taken(), 3);
        DUE.is("SOME: asked", some.asked(), 6);
        DUE.is("SOME: is not frozen", some.advise(1, 0, 1, 0, 0), 5);
        DUE.chain("SIX", State.SIX.make(), 5, 5, 0, 3, 2, 4, 6);
        DUE.is("FROZEN", State.FROZEN.make().advise(1, 0, 1, 0, 0), NONE);
        DUE.chain("BROKEN", State.BROKEN.make(), 5, 0, 1, 2, 3, 4, 5);
        DUE.is("BROKEN", State.BROKEN.make().invoke(0, 7), AdviceLinks.BROKEN);
        DUE.is("BROKEN", State.BROKEN.make().events(), 100);
    }

    /** Makes calls that are refused in every state; answers whether one was not. */
    private static boolean takesAny(AdviceLinks x) {
        boolean advised = x.advise(8, 0, 1, 1, 1) != NONE || x.advise(1, 0, 64, 1, 1) != NONE
            || x.advise(0, 0, 1, 1, 16) != NONE || x.advise(5, 0, 1, 16, 1) != NONE || x.advise(7, 0, 1, 0, 1) != NONE;
        boolean changed = x.when(2, 6, 5) || x.when(9, 1, 1) || x.reorder(9, 1) || x.remove(9);
        boolean set = x.plan(2, 0, 5, 5) || x.plan(0, 6, 5, 5) || x.fail(2, 0, 3, 3) || x.fail(0, 6, 3, 3)
            || x.fail(0, 0, 3, 16) || x.calls(2, 0, 1) || x.calls(0, 6, 1) || x.calls(0, 0, 6) || x.source(3);
        boolean invoked = x.invoke(6, 1) != NONE || x.chain(6, 0) != NONE || x.chain(0, 6) != NONE || x.who(-1) != NONE;
        return advised || changed || set || invoked;
    }
}
