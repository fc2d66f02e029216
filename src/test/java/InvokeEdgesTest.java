/**
 * The boundaries of promises 11 (invoke), 12 (result), 13 (events), 14 (who), 15 (what), 16 (asked)
 * and 17 (taken), and of the 512 calls.
 */
public final class InvokeEdgesTest {
    private static final int NONE = AdviceLinks.NONE;
    private static final int RETURNED = AdviceLinks.RETURNED;
    private static final int THROWN = AdviceLinks.THROWN;
    private static final int BROKEN = AdviceLinks.BROKEN;
    private static final int LOWEST = Integer.MIN_VALUE;
    private static final int HIGHEST = Integer.MAX_VALUE;
    private static final Due DUE = new Due();
    private static final Refusal REFUSAL = new Refusal(DUE);

    public static void main(String[] args) {
        DUE.test("What it is: at most 512 calls", InvokeEdgesTest::lastOf512Calls);
        DUE.test("Promise 11: answers RETURNED, THROWN or BROKEN", InvokeEdgesTest::invokeAnswers);
        DUE.test("Promise 11: any argument", InvokeEdgesTest::invokeAnyArgument);
        DUE.test("Promise 11: NONE, changing nothing, when method is not 0 .. 5", InvokeEdgesTest::invokeMethod);
        DUE.test("Promise 12: the result or the exception of the latest invoke()", InvokeEdgesTest::resultOfLatest);
        DUE.test("Promise 12: 0 when it was BROKEN", InvokeEdgesTest::resultWhenBroken);
        DUE.test("Promise 12: 0 when there was none", InvokeEdgesTest::nothingWithoutInvoke);
        DUE.test("Promise 13: in the latest invoke()", InvokeEdgesTest::eventsOfLatest);
        DUE.test("Promise 13: 0 when there was none", InvokeEdgesTest::nothingWithoutInvoke);
        DUE.test("Promise 14: the advisor's number, or 100 + the method", InvokeEdgesTest::whoIsIt);
        DUE.test("Promise 14: NONE when there is no such event", InvokeEdgesTest::whoNoSuchEvent);
        DUE.test("Promise 15: x, r or e, as said", InvokeEdgesTest::whatIsSaid);
        DUE.test("Promise 15: 0 when there is no such event", InvokeEdgesTest::whatNoSuchEvent);
        DUE.test("Promise 16: how many times advisors were asked", InvokeEdgesTest::askedOfLatest);
        DUE.test("Promise 16: 0 when there was none", InvokeEdgesTest::nothingWithoutInvoke);
        DUE.test("Promise 17: how many targets were taken", InvokeEdgesTest::takenOfLatest);
        DUE.test("Promise 17: 0 when there was none", InvokeEdgesTest::nothingWithoutInvoke);
        DUE.end();
    }

    private static void lastOf512Calls() {
        AdviceLinks x = new AdviceLinks();
        for (int number = 0; number < 255; number++) {
            x.advise(1, 0, 63, 0, 0);
            x.remove(number);
        }
        DUE.is("the 511th call", x.advise(1, 0, 63, 0, 0), 255);
        DUE.is("the 512th call", x.chain(5, 0), 255);
        AdviceLinks y = new AdviceLinks();
        y.plan(1, 0, 1, 1000);
        y.source(2);
        for (int i = 0; i < 508; i++) {
            y.invoke(0, i);
        }
        DUE.is("the 511th call", y.invoke(0, 7), RETURNED);
        DUE.is("the 512th call", y.result(), 7);
        for (int i = 0; i < 5000; i++) {
            y.advise(i % 8, i, 63, 1, 1);
            y.invoke(0, i);
            y.remove(i);
        }
    }

    /**
     * An object in which method 0 returns, method 1 throws at 5, and method 2 is broken off above 1: its
     * 32 works call the methods 3 and 4, and the hundredth event is that of its 25th work.
     */
    private static AdviceLinks withThreeOutcomes() {
        AdviceLinks x = new AdviceLinks();
        x.fail(0, 1, 5, 11);
        for (int i = 0; i < 5; i++) {
            x.advise(3, i, 4, 0, 0);
        }
        x.advise(1, 0, 3, 0, 0);
        x.when(5, 5, 5);
        x.calls(0, 2, 3);
        x.calls(0, 3, 4);
        return x;
    }

    private static void invokeAnswers() {
        AdviceLinks x = withThreeOutcomes();
        DUE.is("returns", x.invoke(0, 5), RETURNED);
        DUE.is("throws", x.invoke(1, 5), THROWN);
        DUE.is("throws no more", x.invoke(1, 6), RETURNED);
        DUE.is("is broken off", x.invoke(2, 5), BROKEN);
        DUE.is("has fewer events", x.invoke(2, 0), RETURNED);
    }

    private static void invokeAnyArgument() {
        AdviceLinks x = new AdviceLinks();
        int[] arguments = {LOWEST, LOWEST + 1, -1, 0, 1, HIGHEST - 1, HIGHEST};
        for (int argument : arguments) {
            DUE.invokes("any", x, 5, argument, RETURNED, argument, 105, argument);
        }
    }

    private static void invokeMethod() {
        int[] wrong = {LOWEST, -6, -1, 6, 7, 32, 105, HIGHEST};
        for (int method : wrong) {
            for (int argument = 0; argument < 6; argument = argument + 2) {
                int x = argument;
                REFUSAL.isNone("invoke(" + method + ", " + x + ")", y -> y.invoke(method, x), State.values());
            }
        }
        for (int method = 0; method <= 5; method++) {
            DUE.invokes("method", new AdviceLinks(), method, 4, RETURNED, 4, 100 + method, 4);
        }
    }

    private static void resultOfLatest() {
        AdviceLinks x = withThreeOutcomes();
        x.invoke(0, 7);
        DUE.is("a result", x.result(), 7);
        DUE.is("the same again", x.result(), 7);
        x.invoke(1, 5);
        DUE.is("an exception", x.result(), 11);
        x.invoke(6, 9);
        DUE.is("a refused one is not the latest", x.result(), 11);
        x.invoke(0, LOWEST);
        DUE.is("the lowest", x.result(), LOWEST);
        x.invoke(0, HIGHEST);
        DUE.is("the highest", x.result(), HIGHEST);
        x.invoke(0, 0);
        DUE.is("zero", x.result(), 0);
    }

    private static void resultWhenBroken() {
        AdviceLinks x = withThreeOutcomes();
        x.invoke(0, 7);
        DUE.is("broken off after a result", x.invoke(2, 5), BROKEN);
        DUE.is("broken off after a result", x.result(), 0);
        x.invoke(1, 5);
        DUE.is("broken off after an exception", x.invoke(2, 5), BROKEN);
        DUE.is("broken off after an exception", x.result(), 0);
        x.invoke(0, 7);
        DUE.is("and then a result", x.result(), 7);
    }

    private static void nothingWithoutInvoke() {
        AdviceLinks x = withThreeOutcomes();
        for (int i = 0; i < 2; i++) {
            DUE.is("result()", x.result(), 0);
            DUE.is("events()", x.events(), 0);
            DUE.is("who(0)", x.who(0), NONE);
            DUE.is("what(0)", x.what(0), 0);
            DUE.is("asked()", x.asked(), 0);
            DUE.is("taken()", x.taken(), 0);
            DUE.is("a refused one is none", x.invoke(6, 5), NONE);
        }
    }

    private static void eventsOfLatest() {
        AdviceLinks x = withThreeOutcomes();
        x.invoke(0, 5);
        DUE.is("two", x.events(), 2);
        x.invoke(0, 6);
        DUE.is("one", x.events(), 1);
        x.invoke(2, 5);
        DUE.is("a hundred", x.events(), 100);
        x.invoke(-1, 5);
        DUE.is("a refused one is not the latest", x.events(), 100);
        x.invoke(1, 5);
        DUE.is("two, and an exception", x.events(), 2);
        x.when(5, 9, 9);
        x.calls(0, 0, 1);
        x.invoke(0, 9);
        DUE.is("three, one of them inside", x.events(), 3);
    }

    private static void whoIsIt() {
        AdviceLinks x = withThreeOutcomes();
        for (int method = 0; method < 6; method++) {
            x.invoke(method, -1);
            DUE.is("the target in method " + method, x.who(x.events() - 1), 100 + method);
        }
        x.invoke(2, -1);
        for (int i = 0; i < 5; i++) {
            DUE.is("the advisor " + i, x.who(i), i);
        }
        AdviceLinks y = new AdviceLinks();
        for (int number = 0; number <= 101; number++) {
            y.advise(1, 0, 1, 0, 0);
            y.invoke(0, 9);
            DUE.is("the advisor " + number, y.who(0), number);
            y.remove(number);
        }
    }

    private static void whoNoSuchEvent() {
        int[] wrong = {LOWEST, -100, -1, 100, 101, HIGHEST};
        for (int i : wrong) {
            REFUSAL.isNone("who(" + i + ")", x -> x.who(i), State.values());
        }
        AdviceLinks x = withThreeOutcomes();
        x.invoke(2, 5);
        DUE.is("the last of a hundred", x.who(99), 102);
        x.invoke(0, 5);
        DUE.is("the first of two", x.who(0), 5);
        DUE.is("the last of two", x.who(1), 100);
        DUE.is("behind the last of two", x.who(2), NONE);
        DUE.is("what an earlier one had there", x.who(99), NONE);
        REFUSAL.isNone("who(0) of none", y -> y.who(0), State.NEW);
    }

    private static void whatIsSaid() {
        AdviceLinks x = new AdviceLinks();
        x.plan(0, 0, 0, LOWEST);
        x.advise(4, 0, 1, 0, 1);
        DUE.invokes("x and r", x, 0, HIGHEST, RETURNED, LOWEST, 100, HIGHEST, 0, LOWEST);
        x.fail(0, 0, HIGHEST, 15);
        x.advise(5, 0, 1, 1, 2);
        DUE.invokes("x and e", x, 0, HIGHEST, THROWN, 2, 100, HIGHEST, 1, 15);
    }

    private static void whatNoSuchEvent() {
        AdviceLinks x = withThreeOutcomes();
        x.invoke(2, 5);
        DUE.is("the last of a hundred", x.what(99), 5);
        DUE.is("behind it", x.what(100), 0);
        x.invoke(0, 5);
        int[] wrong = {LOWEST, -100, -1, 2, 3, 99, 100, 101, HIGHEST};
        for (int i : wrong) {
            DUE.is("what(" + i + ")", x.what(i), 0);
        }
        DUE.is("the first of two", x.what(0), 5);
        DUE.is("the last of two", x.what(1), 5);
    }

    private static void askedOfLatest() {
        AdviceLinks x = withThreeOutcomes();
        x.invoke(0, 5);
        DUE.is("in its range", x.asked(), 1);
        x.invoke(2, 0);
        DUE.is("none with a range", x.asked(), 0);
        x.invoke(1, 4);
        DUE.is("not in its range", x.asked(), 1);
        x.invoke(6, 4);
        DUE.is("a refused one is not the latest", x.asked(), 1);
        x.invoke(3, 0);
        DUE.is("an empty chain", x.asked(), 0);
    }

    private static void takenOfLatest() {
        AdviceLinks x = withThreeOutcomes();
        x.invoke(0, 5);
        DUE.is("one", x.taken(), 1);
        x.invoke(3, 5);
        DUE.is("one in one", x.taken(), 2);
        x.calls(0, 4, 4);
        x.invoke(3, 2);
        DUE.is("three", x.taken(), 3);
        x.invoke(3, 3);
        DUE.is("three, and a fourth that takes none", x.taken(), 3);
        x.invoke(6, 5);
        DUE.is("a refused one is not the latest", x.taken(), 3);
        x.invoke(0, 5);
        DUE.is("one again", x.taken(), 1);
    }
}
