/** Counts the answers that are not as due, prints each, and ends the test. */
final class Due {
    // Far more than any test needs, so that a call that fails to end fails its test.
    private static final long LONGEST_MILLIS = 300_000;

    private int wrong = 0;
    private int right = 0;

    Due() {
        Thread watch = new Thread(Due::haltWhenTooLong);
        watch.setDaemon(true);
        watch.start();
    }

    private static void haltWhenTooLong() {
        try {
            Thread.sleep(LONGEST_MILLIS);
        } catch (InterruptedException e) {
            return;
        }
        System.out.println("the test does not end");
        System.out.flush();
        Runtime.getRuntime().halt(1);
    }

    /** A test with a name of its own: the promise or the term, and the words of the document that it is about. */
    void test(String name, Runnable body) {
        int before = wrong;
        body.run();
        System.out.println((wrong == before ? "ok     " : "WRONG  ") + name);
    }

    void is(String call, long got, long want) {
        if (got == want) {
            right++;
        } else {
            wrong++;
            System.out.println(call + " answered " + got + ", due is " + want);
        }
    }

    void yes(String call, boolean got) {
        is(call, got ? 1 : 0, 1);
    }

    void no(String call, boolean got) {
        is(call, got ? 1 : 0, 0);
    }

    /** Invokes, and looks at the outcome, the result and all events, given as who, what, who, what, .. */
    void invokes(String run, AdviceLinks x, int method, int argument, int outcome, int result, int... trace) {
        String call = run + ": invoke(" + method + ", " + argument + ")";
        is(call, x.invoke(method, argument), outcome);
        is(call + " result()", x.result(), result);
        is(call + " events()", x.events(), trace.length / 2);
        for (int i = 0; i < trace.length / 2; i++) {
            is(call + " who(" + i + ")", x.who(i), trace[2 * i]);
            is(call + " what(" + i + ")", x.what(i), trace[2 * i + 1]);
        }
        is(call + " who(" + trace.length / 2 + ")", x.who(trace.length / 2), AdviceLinks.NONE);
        is(call + " what(" + trace.length / 2 + ")", x.what(trace.length / 2), 0);
    }

    /** Looks at the whole chain of a method, and that nothing is behind it. */
    void chain(String run, AdviceLinks x, int method, int... numbers) {
        for (int i = 0; i < numbers.length; i++) {
            is(run + ": chain(" + method + ", " + i + ")", x.chain(method, i), numbers[i]);
        }
        is(run + ": chain(" + method + ", " + numbers.length + ")", x.chain(method, numbers.length), AdviceLinks.NONE);
    }

    boolean hasWrong() {
        return wrong != 0;
    }

    void end() {
        System.out.println(right + " answers as due, " + wrong + " not as due");
        if (wrong != 0) {
            System.exit(1);
        }
    }
}
