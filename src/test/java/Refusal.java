import java.util.ArrayList;
import java.util.List;
import java.util.function.Predicate;
import java.util.function.ToIntFunction;

/**
 * Holds refused calls to "A call that is refused (it answers false or NONE) changes nothing": of two
 * objects in the same state one gets the call, and from then on both must answer alike. What can be
 * seen only by changing the object is looked at one probe at a time, each on a new pair.
 */
final class Refusal {
    private static final int MOST_CALLS = 512;
    private static final int ADVISORS_EVER = 9;

    private final Due due;

    Refusal(Due due) {
        this.due = due;
    }

    /** The call answers NONE and changes nothing, in each of the states. */
    void isNone(String call, ToIntFunction<AdviceLinks> refused, State... states) {
        for (State state : states) {
            isRefused(call, refused, AdviceLinks.NONE, state);
        }
    }

    /** The call answers false and changes nothing, in each of the states. */
    void isFalse(String call, Predicate<AdviceLinks> refused, State... states) {
        for (State state : states) {
            isRefused(call, x -> refused.test(x) ? 1 : 0, 0, state);
        }
    }

    private void isRefused(String call, ToIntFunction<AdviceLinks> refused, int answer, State state) {
        due.is(state + ": " + call, refused.applyAsInt(state.make()), answer);
        for (Probe probe : probes()) {
            AdviceLinks called = state.make();
            AdviceLinks spared = state.make();
            refused.applyAsInt(called);
            List<Integer> got = probe.answers(called);
            List<Integer> want = probe.answers(spared);
            due.yes("a probe within 512 calls", got.size() + State.CALLS < MOST_CALLS);
            due.yes(state + ": after " + call + " " + probe.name + " are as before it", got.equals(want));
        }
    }

    private static List<Probe> probes() {
        List<Probe> probes = new ArrayList<>();
        probes.add(new Probe("the answers on the latest invoke()", Refusal::latest));
        probes.add(new Probe("the chains", Refusal::chains));
        probes.add(new Probe("the source and its turns", Refusal::turns));
        probes.add(new Probe("the numbers to come", Refusal::numbers));
        probes.add(new Probe("the freezing", Refusal::freezing));
        for (int i = 0; i < 2; i++) {
            int which = i;
            probes.add(new Probe("the works of target " + which, log -> works(log, which)));
            probes.add(new Probe("the orders, " + which, log -> orders(log, which)));
        }
        for (int i = 0; i < 6; i++) {
            int method = i;
            probes.add(new Probe("the deeds of advisors in method " + method, log -> deeds(log, method)));
        }
        return probes;
    }

    private static void latest(Log log) {
        AdviceLinks x = log.x;
        log.add(x.result());
        log.add(x.asked());
        log.add(x.taken());
        int events = log.add(x.events());
        for (int i = -1; i <= events; i++) {
            log.add(x.who(i));
            log.add(x.what(i));
        }
    }

    private static void chains(Log log) {
        for (int method = 0; method < 6; method++) {
            for (int i = -1; i <= 6; i++) {
                log.add(log.x.chain(method, i));
            }
        }
    }

    private static void turns(Log log) {
        withoutAdvisors(log);
        for (int target = 0; target < 2; target++) {
            log.add(log.x.fail(target, 3, 0, 0));
            log.add(log.x.plan(target, 3, 0, 700 + target));
        }
        for (int i = 0; i < 3; i++) {
            log.add(log.x.invoke(3, 0));
            log.add(log.x.result());
        }
    }

    private static void numbers(Log log) {
        log.x.freeze(false);
        for (int i = 0; i < 8; i++) {
            log.add(log.x.advise(1, i, 63, 0, 0));
        }
        for (int number = 0; number < ADVISORS_EVER; number++) {
            log.add(log.x.remove(number));
            log.add(log.x.advise(1, number, 63, 0, 0));
        }
    }

    private static void freezing(Log log) {
        for (int number = 0; number < ADVISORS_EVER; number++) {
            log.add(log.x.when(number, 1, 1));
            log.add(log.x.reorder(number, 1));
            log.add(log.x.remove(number));
        }
        log.add(log.x.advise(1, 0, 1, 0, 0));
    }

    private static void works(Log log, int target) {
        withoutAdvisors(log);
        log.add(log.x.source(target));
        for (int method = 0; method < 6; method++) {
            for (int argument = -2; argument <= 9; argument++) {
                log.add(log.x.invoke(method, argument));
                log.add(log.x.result());
                log.add(log.x.taken());
                log.add(log.x.who(1));
            }
        }
    }

    private static void withoutAdvisors(Log log) {
        log.x.freeze(false);
        for (int number = 0; number < ADVISORS_EVER; number++) {
            log.add(log.x.remove(number));
        }
    }

    /** Where a new advisor of each order would stand, behind the first or before the last when six are there. */
    private static void orders(Log log, int which) {
        AdviceLinks x = log.x;
        x.freeze(false);
        if (log.add(x.chain(5, 5)) != AdviceLinks.NONE) {
            log.add(x.remove(x.chain(5, 5 * which)));
        }
        for (int order = -3; order <= 24; order++) {
            int number = log.add(x.advise(1, order, 32, 0, 0));
            for (int i = 0; i < 6 && log.add(x.chain(5, i)) != number; i++) {
                continue;
            }
            log.add(x.remove(number));
        }
    }

    private static void deeds(Log log, int method) {
        AdviceLinks x = log.x;
        for (int argument = -6; argument <= 9; argument++) {
            log.add(x.invoke(method, argument));
            log.add(x.result());
            log.add(x.asked());
            log.add(x.taken());
            log.add(x.events());
            for (int i = 0; i < 8; i++) {
                log.add(x.who(i));
                log.add(x.what(i));
            }
        }
    }

    private interface Questions {
        void ask(Log log);
    }

    private static final class Probe {
        private final String name;
        private final Questions questions;

        Probe(String name, Questions questions) {
            this.name = name;
            this.questions = questions;
        }

        List<Integer> answers(AdviceLinks x) {
            Log log = new Log(x);
            questions.ask(log);
            return log.answers;
        }
    }

    /** An object under question, and all that it has answered. */
    private static final class Log {
        private final AdviceLinks x;
        private final List<Integer> answers = new ArrayList<>();

        Log(AdviceLinks x) {
            this.x = x;
        }

        int add(int answer) {
            answers.add(answer);
            return answer;
        }

        void add(boolean answer) {
            answers.add(answer ? 1 : 0);
        }
    }
}
