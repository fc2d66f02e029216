import java.util.ArrayList;
import java.util.Comparator;
import java.util.List;
import java.util.Map;
import java.util.TreeMap;
import java.util.function.IntUnaryOperator;

/**
 * The document said once more in other words, for comparison: chains are lists made anew for each
 * look, and what is thrown and broken off are exceptions of Java.
 */
final class Model {
    private static final class Thrown extends RuntimeException {
        private static final long serialVersionUID = 1;
        final int exception;

        Thrown(int exception) {
            super(null, null, false, false);
            this.exception = exception;
        }
    }

    private static final class BrokenOff extends RuntimeException {
        private static final long serialVersionUID = 1;

        BrokenOff() {
            super(null, null, false, false);
        }
    }

    private record Made(int number, int kind, int order, int methods, int a, int b, long low, long high, boolean ranged) { }

    private final Map<Integer, Made> there = new TreeMap<>();
    private final Map<List<Integer>, int[]> plans = new TreeMap<>(Comparator.comparing(List::toString));
    private final List<int[]> trace = new ArrayList<>();
    private int made = 0;
    private boolean frozen = false;
    private int source = 0;
    private int sinceSource = 0;
    private int underWay = 0;
    private int result = 0;
    private int asked = 0;
    private int taken = 0;

    private static boolean within(int low, int x, int high) {
        return low <= x && x <= high;
    }

    int advise(int kind, int order, int methods, int a, int b) {
        boolean good = within(0, kind, 7) && within(1, methods, 63);
        good = good && (!List.of(0, 4, 6).contains(kind) || within(1, b, 15));
        good = good && (!List.of(5, 7).contains(kind) || within(1, a, 15));
        good = good && (kind != 5 || within(0, b, 15));
        if (frozen || there.size() >= 6 || !good) {
            return -1;
        }
        there.put(made, new Made(made, kind, order, methods, a, b, 0, 0, false));
        return made++;
    }

    boolean when(int advisor, int low, int high) {
        Made m = there.get(advisor);
        if (frozen || m == null || low > high) {
            return false;
        }
        there.put(advisor, new Made(advisor, m.kind, m.order, m.methods, m.a, m.b, low, high, true));
        return true;
    }

    boolean reorder(int advisor, int order) {
        Made m = there.get(advisor);
        if (frozen || m == null) {
            return false;
        }
        there.put(advisor, new Made(advisor, m.kind, order, m.methods, m.a, m.b, m.low, m.high, m.ranged));
        return true;
    }

    boolean remove(int advisor) {
        return !frozen && there.remove(advisor) != null;
    }

    void freeze(boolean on) {
        frozen = on;
    }

    /** Factor, addend, the argument at which it fails, the exception, the next method. */
    private int[] plan(int target, int method) {
        return plans.computeIfAbsent(List.of(target, method), key -> new int[] {1, 0, 0, 0, -1});
    }

    boolean plan(int target, int method, int factor, int addend) {
        if (!within(0, target, 1) || !within(0, method, 5)) {
            return false;
        }
        plan(target, method)[0] = factor;
        plan(target, method)[1] = addend;
        return true;
    }

    boolean fail(int target, int method, int argument, int exception) {
        if (!within(0, target, 1) || !within(0, method, 5) || !within(0, exception, 15)) {
            return false;
        }
        plan(target, method)[2] = argument;
        plan(target, method)[3] = exception;
        return true;
    }

    boolean calls(int target, int method, int next) {
        if (!within(0, target, 1) || !within(0, method, 5) || !within(-1, next, 5)) {
            return false;
        }
        plan(target, method)[4] = next;
        return true;
    }

    boolean source(int to) {
        if (!within(0, to, 2)) {
            return false;
        }
        source = to;
        sinceSource = 0;
        return true;
    }

    int invoke(int method, int argument) {
        if (!within(0, method, 5)) {
            return -1;
        }
        trace.clear();
        asked = 0;
        taken = 0;
        underWay = 0;
        result = 0;
        try {
            result = invocation(method, argument);
            return 0;
        } catch (Thrown thrown) {
            result = thrown.exception;
            return 1;
        } catch (BrokenOff broken) {
            return 2;
        }
    }

    int result() {
        return result;
    }

    int events() {
        return trace.size();
    }

    int who(int i) {
        return within(0, i, trace.size() - 1) ? trace.get(i)[0] : -1;
    }

    int what(int i) {
        return within(0, i, trace.size() - 1) ? trace.get(i)[1] : 0;
    }

    int asked() {
        return asked;
    }

    int taken() {
        return taken;
    }

    int chain(int method, int i) {
        List<Made> chain = within(0, method, 5) ? chainOf(method) : List.of();
        return within(0, i, chain.size() - 1) ? chain.get(i).number : -1;
    }

    private List<Made> chainOf(int method) {
        return there.values().stream().filter(m -> (m.methods >> method) % 2 == 1)
            .sorted(Comparator.comparingInt(Made::order).thenComparingInt(Made::number)).toList();
    }

    private void note(int who, int what) {
        if (trace.size() == 100) {
            throw new BrokenOff();
        }
        trace.add(new int[] {who, what});
    }

    private int invocation(int method, int argument) {
        if (underWay == 3) {
            throw new Thrown(15);
        }
        underWay++;
        try {
            taken++;
            int target = source == 2 ? sinceSource++ % 2 : source;
            IntUnaryOperator all = x -> work(target, method, x);
            List<Made> chain = chainOf(method);
            for (int i = chain.size() - 1; i >= 0; i--) {
                Made advisor = chain.get(i);
                IntUnaryOperator goOn = all;
                all = x -> pass(advisor, goOn, x);
            }
            return all.applyAsInt(argument);
        } finally {
            underWay--;
        }
    }

    private int work(int target, int method, int x) {
        note(100 + method, x);
        int[] plan = plan(target, method);
        if (plan[3] != 0 && plan[2] == x) {
            throw new Thrown(plan[3]);
        }
        int y = plan[4] >= 0 && x > 0 ? invocation(plan[4], x - 1) : x;
        return plan[0] * y + plan[1];
    }

    private int pass(Made m, IntUnaryOperator goOn, int x) {
        if (m.ranged) {
            asked++;
            if (x < m.low || x > m.high) {
                return goOn.applyAsInt(x);
            }
        }
        return m.kind < 4 ? actFirst(m, goOn, x) : actAfter(m, goOn, x);
    }

    private int actFirst(Made m, IntUnaryOperator goOn, int x) {
        note(m.number, x);
        if (m.kind == 0 && x == m.a) {
            throw new Thrown(m.b);
        }
        if (m.kind == 1) {
            return goOn.applyAsInt(x + m.a) + m.b;
        }
        if (m.kind == 2 && x < m.a) {
            return m.b;
        }
        int r = goOn.applyAsInt(x);
        return m.kind == 3 ? r + goOn.applyAsInt(x + m.a) + m.b : r;
    }

    private int actAfter(Made m, IntUnaryOperator goOn, int x) {
        int r;
        try {
            r = goOn.applyAsInt(x);
        } catch (Thrown thrown) {
            return afterThrow(m, thrown, x);
        }
        if (m.kind == 4 || m.kind == 6) {
            int seen = m.kind == 4 ? r : x;
            note(m.number, seen);
            if (seen == m.a) {
                throw new Thrown(m.b);
            }
        }
        return r;
    }

    private int afterThrow(Made m, Thrown thrown, int x) {
        int e = thrown.exception;
        if (m.kind == 6) {
            note(m.number, x);
            throw x == m.a ? new Thrown(m.b) : thrown;
        }
        if (m.kind == 4 || !List.of(e, e / 2, e / 4, e / 8).contains(m.a)) {
            throw thrown;
        }
        note(m.number, e);
        if (m.kind == 7) {
            return m.b;
        }
        throw m.b == 0 ? thrown : new Thrown(m.b);
    }
}
