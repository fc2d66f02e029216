/** BROKEN: which call is broken off, at which event, and what is not done any more. */
public final class BrokenEdgesTest {
    private static final int NONE = AdviceLinks.NONE;
    private static final int RETURNED = AdviceLinks.RETURNED;
    private static final int THROWN = AdviceLinks.THROWN;
    private static final int BROKEN = AdviceLinks.BROKEN;
    private static final int HIGHEST = Integer.MAX_VALUE;
    /** The number of the advisor that is tested; 0 .. 4 are those of the ladder. */
    private static final int TESTED = 5;
    private static final int OUTERMOST = -9;
    private static final Due DUE = new Due();

    public static void main(String[] args) {
        DUE.test("BROKEN: when an event is to be noted and 100 were noted", BrokenEdgesTest::hundredAndOne);
        DUE.test("BROKEN: 100 were noted in the call of invoke()", BrokenEdgesTest::countedForEachCall);
        DUE.test("BROKEN: the event of a target", BrokenEdgesTest::eventOfTarget);
        DUE.test("BROKEN: the event of BEFORE", BrokenEdgesTest::eventOfBefore);
        DUE.test("BROKEN: the event of CHANGE", BrokenEdgesTest::eventOfChange);
        DUE.test("BROKEN: the event of SKIP", BrokenEdgesTest::eventOfSkip);
        DUE.test("BROKEN: the event of TWICE", BrokenEdgesTest::eventOfTwice);
        DUE.test("BROKEN: the event of RETURNING", BrokenEdgesTest::eventOfReturning);
        DUE.test("BROKEN: the event of THROWING", BrokenEdgesTest::eventOfThrowing);
        DUE.test("BROKEN: the event of FINALLY", BrokenEdgesTest::eventOfFinally);
        DUE.test("BROKEN: the event of RECOVER", BrokenEdgesTest::eventOfRecover);
        DUE.test("BROKEN: it is not noted", BrokenEdgesTest::notNoted);
        DUE.test("BROKEN: all that is under way is broken off at once", BrokenEdgesTest::allIsBrokenOff);
        DUE.test("BROKEN: without a result or an exception", BrokenEdgesTest::withoutResult);
        DUE.test("BROKEN: nothing more is taken", BrokenEdgesTest::nothingMoreIsTaken);
        DUE.test("BROKEN: nothing more is asked", BrokenEdgesTest::nothingMoreIsAsked);
        DUE.test("BROKEN: nothing more is asked behind the advisor whose event it was", BrokenEdgesTest::notAskedBehindIt);
        DUE.test("BROKEN: the calls after it", BrokenEdgesTest::callsAfterIt);
        DUE.end();
    }

    /**
     * Method 0 works 32 times, on x, x + 2, .. x + 62, through five advisors of the kind TWICE; where
     * the argument is above 0 it calls method 1, and that method 2. So invoke(0, x) has 125 + x events
     * for x from -62 to 2, if it is not broken off, and takes one target for each event above 62. The
     * last works are those on x + 62, x + 61 and x + 60 of the methods 0, 1 and 2. The result is 32.
     */
    private static AdviceLinks ladder() {
        return ladder(1);
    }

    /** The ladder, the first of whose chain advises these methods. */
    private static AdviceLinks ladder(int methodsOfTheFirst) {
        AdviceLinks x = new AdviceLinks();
        for (int i = 0; i < 5; i++) {
            x.advise(3, -i, i < 4 ? 1 : methodsOfTheFirst, 2 << i, 0);
        }
        for (int target = 0; target < 2; target++) {
            x.plan(target, 0, 0, 1);
            x.calls(target, 0, 1);
            x.calls(target, 1, 2);
        }
        return x;
    }

    /** The argument with which the ladder has so many events. */
    private static int forEvents(int events) {
        return events - 125;
    }

    /** The argument of the last work of method 2, when the ladder has so many events. */
    private static int lastOfMethod2(int events) {
        return events - 65;
    }

    /** Looks at the outcome of the ladder with so many events, and which is the last that was noted. */
    private static void climb(String run, AdviceLinks x, int events, int outcome, int result, int who, int what) {
        DUE.is(run + ", " + events + " events", x.invoke(0, forEvents(events)), outcome);
        DUE.is(run + ", " + events + " events: result()", x.result(), result);
        int last = x.events() - 1;
        DUE.is(run + ", " + events + " events: the last, who", x.who(last), who);
        DUE.is(run + ", " + events + " events: the last, what", x.what(last), what);
        DUE.is(run + ", " + events + " events: behind it", x.who(last + 1), NONE);
    }

    private static void climbTo100(String run, AdviceLinks x, int events, int outcome, int result, int who, int what) {
        climb(run, x, events, outcome, result, who, what);
        DUE.is(run + ", " + events + " events: events()", x.events(), 100);
    }

    private static void hundredAndOne() {
        AdviceLinks x = ladder();
        climb("few", x, 63, RETURNED, 32, 100, 0);
        DUE.is("few", x.events(), 63);
        climb("the last but one", x, 99, RETURNED, 32, 102, 34);
        DUE.is("the last but one", x.events(), 99);
        climbTo100("just a hundred", x, 100, RETURNED, 32, 102, 35);
        climbTo100("the first too many", x, 101, BROKEN, 0, 101, 37);
        climbTo100("two too many", x, 102, BROKEN, 0, 100, 39);
        climbTo100("far too many", x, 127, BROKEN, 0, 100, 50);
        x.fail(0, 2, 35, 9);
        climbTo100("just a hundred, and an exception", x, 100, THROWN, 9, 102, 35);
    }

    private static void countedForEachCall() {
        AdviceLinks x = ladder();
        for (int i = 0; i < 3; i++) {
            climbTo100("a hundred each time", x, 100, RETURNED, 32, 102, 35);
        }
        climbTo100("broken off", x, 101, BROKEN, 0, 101, 37);
        climbTo100("a hundred after it", x, 100, RETURNED, 32, 102, 35);
        DUE.is("refused after it", x.invoke(6, 0), NONE);
        climbTo100("a hundred after that", x, 100, RETURNED, 32, 102, 35);
    }

    private static void eventOfTarget() {
        climbTo100("method 2 notes the hundredth", ladder(), 100, RETURNED, 32, 102, 35);
        climbTo100("method 2 has no room", ladder(), 101, BROKEN, 0, 101, 37);
        climbTo100("method 1 has no room", ladder(), 102, BROKEN, 0, 100, 39);
        climbTo100("method 0 has no room", ladder(), 103, BROKEN, 0, 102, 36);
        AdviceLinks x = ladder();
        x.fail(0, 2, lastOfMethod2(101), 9);
        climbTo100("it would have failed", x, 101, BROKEN, 0, 101, 37);
    }

    /** The ladder with one more advisor, of method 2, that acts only in its last work. */
    private static AdviceLinks withInner(int kind, int a, int b, int events) {
        AdviceLinks x = ladder();
        DUE.is("advise", x.advise(kind, 0, 4, a, b), TESTED);
        int last = lastOfMethod2(events);
        DUE.yes("when", x.when(TESTED, last, last));
        return x;
    }

    private static void eventOfBefore() {
        climbTo100("it is the 99th", withInner(0, 0, 3, 99), 99, RETURNED, 32, 102, 34);
        climbTo100("it is the 100th", withInner(0, 0, 3, 100), 100, BROKEN, 0, TESTED, 35);
        climbTo100("it is the 100th, and throws", withInner(0, 35, 3, 100), 100, THROWN, 3, TESTED, 35);
        climbTo100("it would be the 101st", withInner(0, 0, 3, 101), 101, BROKEN, 0, 101, 37);
        climbTo100("it would be the 101st, and throw", withInner(0, 36, 3, 101), 101, BROKEN, 0, 101, 37);
    }

    private static void eventOfChange() {
        climbTo100("it is the 99th", withInner(1, 1, 1, 99), 99, RETURNED, 32, 102, 35);
        climbTo100("it is the 100th", withInner(1, 1, 1, 100), 100, BROKEN, 0, TESTED, 35);
        climbTo100("it would be the 101st", withInner(1, 1, 1, 101), 101, BROKEN, 0, 101, 37);
    }

    private static void eventOfSkip() {
        climbTo100("it is the 99th", withInner(2, 0, 3, 99), 99, RETURNED, 32, 102, 34);
        climbTo100("it is the 100th", withInner(2, 0, 3, 100), 100, BROKEN, 0, TESTED, 35);
        climbTo100("it is the 100th, and returns", withInner(2, 36, 3, 100), 100, RETURNED, 32, TESTED, 35);
        climbTo100("it would be the 101st, and return", withInner(2, 37, 3, 101), 101, BROKEN, 0, 101, 37);
    }

    private static void eventOfTwice() {
        climbTo100("it is the 98th", withInner(3, 1, 0, 98), 98, RETURNED, 32, 102, 34);
        climbTo100("it is the 99th", withInner(3, 1, 0, 99), 99, BROKEN, 0, 102, 34);
        climbTo100("it is the 100th", withInner(3, 1, 0, 100), 100, BROKEN, 0, TESTED, 35);
        climbTo100("it would be the 101st", withInner(3, 1, 0, 101), 101, BROKEN, 0, 101, 37);
    }

    /** The ladder with one more advisor, of method 0, around all others. */
    private static AdviceLinks withOuter(int kind, int a, int b) {
        AdviceLinks x = ladder();
        DUE.is("advise", x.advise(kind, OUTERMOST, 1, a, b), TESTED);
        return x;
    }

    /** The same, and the last of so many events is that of a target that throws 9. */
    private static AdviceLinks withOuterAndThrow(int kind, int a, int b, int events) {
        AdviceLinks x = withOuter(kind, a, b);
        x.fail(0, 2, lastOfMethod2(events), 9);
        return x;
    }

    private static void eventOfReturning() {
        climbTo100("it is the 100th", withOuter(4, 0, 3), 99, RETURNED, 32, TESTED, 32);
        climbTo100("it is the 100th, and throws", withOuter(4, 32, 3), 99, THROWN, 3, TESTED, 32);
        climbTo100("it would be the 101st", withOuter(4, 0, 3), 100, BROKEN, 0, 102, 35);
        climbTo100("it would be the 101st, and throw", withOuter(4, 32, 3), 100, BROKEN, 0, 102, 35);
        climbTo100("it has none to note", withOuterAndThrow(4, 0, 3, 100), 100, THROWN, 9, 102, 35);
    }

    private static void eventOfThrowing() {
        climbTo100("it is the 100th", withOuterAndThrow(5, 4, 3, 99), 99, THROWN, 3, TESTED, 9);
        climbTo100("it is the 100th, b is 0", withOuterAndThrow(5, 4, 0, 99), 99, THROWN, 9, TESTED, 9);
        climbTo100("it would be the 101st", withOuterAndThrow(5, 4, 3, 100), 100, BROKEN, 0, 102, 35);
        climbTo100("it would be the 101st, b is 0", withOuterAndThrow(5, 4, 0, 100), 100, BROKEN, 0, 102, 35);
        climbTo100("it has none to note", withOuterAndThrow(5, 5, 3, 100), 100, THROWN, 9, 102, 35);
        climbTo100("it has none to note", withOuter(5, 1, 3), 100, RETURNED, 32, 102, 35);
    }

    private static void eventOfFinally() {
        climbTo100("it is the 100th", withOuter(6, 0, 3), 99, RETURNED, 32, TESTED, -26);
        climbTo100("it is the 100th, and throws", withOuter(6, -26, 3), 99, THROWN, 3, TESTED, -26);
        climbTo100("it is the 100th", withOuterAndThrow(6, 0, 3, 99), 99, THROWN, 9, TESTED, -26);
        climbTo100("it would be the 101st", withOuter(6, 0, 3), 100, BROKEN, 0, 102, 35);
        climbTo100("it would be the 101st, and throw", withOuter(6, -25, 3), 100, BROKEN, 0, 102, 35);
        climbTo100("it would be the 101st", withOuterAndThrow(6, 0, 3, 100), 100, BROKEN, 0, 102, 35);
    }

    private static void eventOfRecover() {
        climbTo100("it is the 100th", withOuterAndThrow(7, 4, 77, 99), 99, RETURNED, 77, TESTED, 9);
        climbTo100("it would be the 101st", withOuterAndThrow(7, 4, 77, 100), 100, BROKEN, 0, 102, 35);
        climbTo100("it has none to note", withOuterAndThrow(7, 5, 77, 100), 100, THROWN, 9, 102, 35);
        climbTo100("it has none to note", withOuter(7, 1, 77), 100, RETURNED, 32, 102, 35);
    }

    private static void notNoted() {
        AdviceLinks x = ladder();
        x.invoke(0, forEvents(101));
        DUE.is("events()", x.events(), 100);
        DUE.is("who(99)", x.who(99), 101);
        DUE.is("what(99)", x.what(99), 37);
        DUE.is("who(100)", x.who(100), NONE);
        DUE.is("what(100)", x.what(100), 0);
        DUE.is("the first is still there", x.who(0), 4);
        DUE.is("the first is still there", x.what(0), -24);
    }

    private static void allIsBrokenOff() {
        int[][] around = {{4, 32, 3}, {4, 0, 3}, {5, 1, 3}, {5, 1, 0}, {6, -24, 3}, {6, 9, 3}, {7, 1, 3}, {3, 9, 9}};
        for (int[] advisor : around) {
            AdviceLinks x = withOuter(advisor[0], advisor[1], advisor[2]);
            String run = "around it kind " + advisor[0];
            DUE.is(run, x.invoke(0, forEvents(127)), BROKEN);
            DUE.is(run + ": result()", x.result(), 0);
            DUE.is(run + ": events()", x.events(), 100);
            DUE.is(run + ": asked()", x.asked(), 0);
            // The event of TWICE comes before all others, so that one work less has room.
            DUE.is(run + ": taken()", x.taken(), advisor[0] == 3 ? 49 : 50);
        }
        for (int kind = 4; kind < 8; kind++) {
            AdviceLinks x = withInner(kind, 1, 3, 101);
            climbTo100("in the invocation that is broken off, kind " + kind, x, 101, BROKEN, 0, 101, 37);
            AdviceLinks y = ladder();
            y.advise(kind, 0, 2, 1, 3);
            y.when(TESTED, 37, 37);
            climbTo100("in the one around it, kind " + kind, y, 101, BROKEN, 0, 101, 37);
        }
    }

    private static void withoutResult() {
        AdviceLinks x = ladder();
        climbTo100("a result", x, 100, RETURNED, 32, 102, 35);
        climbTo100("none after a result", x, 101, BROKEN, 0, 101, 37);
        x.fail(0, 3, 1, 7);
        DUE.invokes("an exception", x, 3, 1, THROWN, 7, 103, 1);
        climbTo100("none after an exception", x, 127, BROKEN, 0, 100, 50);
    }

    private static void takes(AdviceLinks x, int events, int taken) {
        x.invoke(0, forEvents(events));
        DUE.is(events + " events: taken()", x.taken(), taken);
    }

    private static void nothingMoreIsTaken() {
        AdviceLinks x = ladder();
        takes(x, 63, 1);
        takes(x, 99, 37);
        takes(x, 100, 38);
        takes(x, 101, 39);
        takes(x, 102, 39);
        takes(x, 103, 39);
        takes(x, 127, 50);
        x.plan(1, 5, 1, 1000);
        x.source(2);
        takes(x, 101, 39);
        DUE.invokes("the turns go on where they were", x, 5, 0, RETURNED, 1000, 105, 0);
        takes(x, 100, 38);
        DUE.invokes("the turns go on where they were", x, 5, 0, RETURNED, 0, 105, 0);
    }

    private static void asks(AdviceLinks x, int events, int asked) {
        x.invoke(0, forEvents(events));
        DUE.is(events + " events: asked()", x.asked(), asked);
    }

    private static void nothingMoreIsAsked() {
        AdviceLinks x = ladder();
        x.advise(0, 0, 7, 0, 1);
        x.when(TESTED, HIGHEST, HIGHEST);
        asks(x, 63, 32);
        asks(x, 100, 32 + 37);
        asks(x, 101, 32 + 38);
        asks(x, 102, 32 + 38);
        asks(x, 103, 32 + 38);
        asks(x, 127, 25 + 49);
        x.invoke(3, 0);
        DUE.is("an empty chain after it", x.asked(), 0);
    }

    private static void notAskedBehindIt() {
        int[][] early = {{0, -1, 1}, {1, 0, 0}, {2, -1, 1}, {3, 0, 0}};
        for (int[] advisor : early) {
            for (int events = 100; events <= 101; events++) {
                AdviceLinks x = ladder(1 + 4);
                x.when(4, forEvents(events), forEvents(events));
                x.advise(advisor[0], OUTERMOST, 4, advisor[1], advisor[2]);
                x.when(TESTED, lastOfMethod2(events), lastOfMethod2(events));
                boolean notes = events == 100;
                String run = "kind " + advisor[0] + (notes ? " is the 100th" : " would be the 101st");
                climbTo100(run, x, events, BROKEN, 0, notes ? TESTED : 101, notes ? 35 : 37);
                // Of 18 invocations of method 2 both are asked in each, of 19 the second is not in the last.
                DUE.is(run + ": asked()", x.asked(), notes ? 1 + 18 + 18 : 1 + 19 + 18);
            }
        }
    }

    private static void callsAfterIt() {
        AdviceLinks x = ladder();
        takes(x, 127, 50);
        DUE.chain("the chain", x, 0, 4, 3, 2, 1, 0);
        DUE.invokes("another method", x, 3, 4, RETURNED, 4, 103, 4);
        DUE.is("another method", x.taken(), 1);
        takes(x, 127, 50);
        DUE.invokes("three inside one another", x, 1, 2, RETURNED, 1, 101, 2, 102, 1);
        climbTo100("and all of it again", x, 100, RETURNED, 32, 102, 35);
        DUE.is("six", x.advise(1, 0, 1, 0, 0), TESTED);
    }
}
