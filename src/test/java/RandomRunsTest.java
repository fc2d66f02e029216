/** Long runs of calls, always the same ones, in which the program answers as the model does. */
public final class RandomRunsTest {
    private static final int RUNS = 4000;
    private static final int CALLS = 512;
    private static final int[] EDGES = {
        Integer.MIN_VALUE, Integer.MIN_VALUE + 1, -2, -1, 0, 1, 2, 5, 6, 7, 15, 16, 63, 64, 99, 100, 101,
        Integer.MAX_VALUE - 1, Integer.MAX_VALUE};

    private static final Due DUE = new Due();
    private static final long[] OUTCOMES = new long[4];
    private static long state = 20;

    private AdviceLinks x = new AdviceLinks();
    private Model model = new Model();
    private String run = "";
    private int made = 0;
    // Some runs hardly ever make a wrong call, so that full chains come about.
    private int oneWrongIn = 8;
    // In some runs most advisors are TWICE and most methods call others, so that calls are broken off.
    private boolean many = false;

    public static void main(String[] args) {
        // One run with a wrong answer tells enough: what follows it would only repeat it.
        for (int run = 0; run < RUNS && !DUE.hasWrong(); run++) {
            new RandomRunsTest().goThrough(run);
        }
        System.out.println(OUTCOMES[0] + " returned, " + OUTCOMES[1] + " thrown, " + OUTCOMES[2] + " broken, "
            + OUTCOMES[3] + " refused");
        DUE.end();
    }

    private static int below(int bound) {
        state = state * 6364136223846793005L + 1442695040888963407L;
        return (int) ((state >>> 33) % bound);
    }

    private int pick(int low, int high) {
        return below(oneWrongIn) == 0 ? EDGES[below(EDGES.length)] : low + below(high - low + 1);
    }

    private void goThrough(int number) {
        run = "run " + number;
        oneWrongIn = number % 2 == 0 ? 8 : 60;
        many = number % 4 == 3;
        for (int call = 0; call < CALLS; call++) {
            makeCall(below(100), run + " call " + call);
        }
    }

    private void makeCall(int dice, String at) {
        if (dice < 12) {
            advise(at);
        } else if (dice < 30) {
            changeAdvisors(dice, at);
        } else if (dice < 50) {
            changeTargets(dice, at);
        } else if (dice < 53) {
            int source = pick(0, 2);
            same(at + " source", x.source(source), model.source(source));
        } else {
            invoke(at);
        }
    }

    private void advise(String at) {
        int kind = many && below(2) == 0 ? 3 : pick(0, 7);
        int order = pick(-3, 3);
        int methods = pick(1, 63) | (many ? below(64) : 0);
        int a = pick(0, 9);
        int b = pick(1, 15);
        int number = x.advise(kind, order, methods, a, b);
        DUE.is(at + " advise", number, model.advise(kind, order, methods, a, b));
        made = Math.max(made, number + 1);
    }

    private void changeAdvisors(int dice, String at) {
        int advisor = pick(Math.max(0, made - 8), made);
        if (dice < 18) {
            int low = pick(-4, 6);
            int high = low + below(5) - 1;
            same(at + " when", x.when(advisor, low, high), model.when(advisor, low, high));
        } else if (dice < 24) {
            int order = pick(-3, 3);
            same(at + " reorder", x.reorder(advisor, order), model.reorder(advisor, order));
        } else if (dice < 28) {
            same(at + " remove", x.remove(advisor), model.remove(advisor));
        } else {
            boolean on = below(4) == 0;
            x.freeze(on);
            model.freeze(on);
        }
    }

    private void changeTargets(int dice, String at) {
        int target = pick(0, 1);
        int method = pick(0, 5);
        if (dice < 36) {
            int factor = pick(-3, 3);
            int addend = pick(-3, 3);
            same(at + " plan", x.plan(target, method, factor, addend), model.plan(target, method, factor, addend));
        } else if (dice < 42) {
            int argument = pick(-3, 8);
            int exception = pick(0, 15);
            same(at + " fail", x.fail(target, method, argument, exception),
                model.fail(target, method, argument, exception));
        } else {
            int next = pick(many ? 0 : -1, 5);
            same(at + " calls", x.calls(target, method, next), model.calls(target, method, next));
        }
    }

    private void invoke(String at) {
        int method = pick(0, 5);
        int argument = pick(many ? 2 : -3, 9);
        int outcome = x.invoke(method, argument);
        DUE.is(at + " invoke", outcome, model.invoke(method, argument));
        OUTCOMES[outcome >= 0 && outcome < 3 ? outcome : 3]++;
        compareAll(at);
    }

    private void compareAll(String at) {
        DUE.is(at + " result", x.result(), model.result());
        DUE.is(at + " events", x.events(), model.events());
        DUE.is(at + " asked", x.asked(), model.asked());
        DUE.is(at + " taken", x.taken(), model.taken());
        for (int i = -1; i <= model.events(); i++) {
            DUE.is(at + " who", x.who(i), model.who(i));
            DUE.is(at + " what", x.what(i), model.what(i));
        }
        int method = pick(0, 5);
        for (int i = -1; i <= 6; i++) {
            DUE.is(at + " chain", x.chain(method, i), model.chain(method, i));
        }
    }

    private void same(String call, boolean got, boolean want) {
        DUE.is(call, got ? 1 : 0, want ? 1 : 0);
    }
}
