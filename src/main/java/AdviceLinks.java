/**
 * Calls of methods that go through chains of advisors, with a trace of what happened.
 *
 * <p>What comes of a step inside an invocation is answered as RETURNED, THROWN or BROKEN, and the
 * result or the exception that belongs to it stands in {@link #value}. Nothing is made after the
 * constructor: every row has its full length from the beginning and is used again.
 */
public final class AdviceLinks {
    public static final int NONE = -1;
    public static final int RETURNED = 0, THROWN = 1, BROKEN = 2;

    private static final int METHODS = 6;
    private static final int ALL_METHODS = (1 << METHODS) - 1;
    private static final int TARGETS = 2;
    private static final int MOST_ADVISORS = 6;
    private static final int MOST_EVENTS = 100;
    private static final int MOST_INVOCATIONS = 3;
    private static final int LAST_EXCEPTION = 15;
    private static final int TOO_DEEP = 15;
    private static final int FIRST_METHOD_EVENT = 100;
    private static final int IN_TURN = 2;

    private static final int BEFORE = 0;
    private static final int CHANGE = 1;
    private static final int SKIP = 2;
    private static final int TWICE = 3;
    private static final int RETURNING = 4;
    private static final int THROWING = 5;
    private static final int FINALLY = 6;
    private static final int RECOVER = 7;

    private final AdvisorRow advisors = new AdvisorRow();
    private final Work[] works = new Work[TARGETS * METHODS];
    private final Trace trace = new Trace();
    // At each depth at most one invocation is under way, so its method and target stand there.
    private final int[] methodAt = new int[MOST_INVOCATIONS];
    private final int[] targetAt = new int[MOST_INVOCATIONS];
    private boolean frozen = false;
    private int targetSource = 0;
    private int nextInTurn = 0;
    private int timesAsked = 0;
    private int targetsTaken = 0;
    private int value = 0;

    public AdviceLinks() {
        for (int i = 0; i < works.length; i++) {
            works[i] = new Work();
        }
    }

    public int advise(int kind, int order, int methods, int a, int b) {
        if (frozen || advisors.isFull() || kind < BEFORE || kind > RECOVER) {
            return NONE;
        }
        if (methods < 1 || methods > ALL_METHODS || !areNumbersOf(kind, a, b)) {
            return NONE;
        }
        return advisors.make(kind, order, methods, a, b);
    }

    public boolean when(int advisor, int low, int high) {
        int place = advisors.placeOf(advisor);
        if (frozen || place == NONE || low > high) {
            return false;
        }
        advisors.at(place).giveRange(low, high);
        return true;
    }

    public boolean reorder(int advisor, int order) {
        int place = advisors.placeOf(advisor);
        if (frozen || place == NONE) {
            return false;
        }
        advisors.move(place, order);
        return true;
    }

    public boolean remove(int advisor) {
        int place = advisors.placeOf(advisor);
        if (frozen || place == NONE) {
            return false;
        }
        advisors.takeAway(place);
        return true;
    }

    public void freeze(boolean on) {
        frozen = on;
    }

    public boolean plan(int target, int method, int factor, int addend) {
        if (!isTarget(target) || !isMethod(method)) {
            return false;
        }
        Work work = workOf(target, method);
        work.factor = factor;
        work.addend = addend;
        return true;
    }

    public boolean fail(int target, int method, int argument, int exception) {
        if (!isTarget(target) || !isMethod(method) || !isExceptionOrZero(exception)) {
            return false;
        }
        Work work = workOf(target, method);
        work.failsAt = argument;
        work.exception = exception;
        return true;
    }

    public boolean calls(int target, int method, int next) {
        if (!isTarget(target) || !isMethod(method) || (next != NONE && !isMethod(next))) {
            return false;
        }
        workOf(target, method).next = next;
        return true;
    }

    public boolean source(int source) {
        if (source < 0 || source > IN_TURN) {
            return false;
        }
        targetSource = source;
        nextInTurn = 0;
        return true;
    }

    public int invoke(int method, int argument) {
        if (!isMethod(method)) {
            return NONE;
        }
        trace.clear();
        timesAsked = 0;
        targetsTaken = 0;
        return begin(method, argument, 0);
    }

    public int result() {
        return value;
    }

    public int events() {
        return trace.length;
    }

    public int who(int i) {
        return trace.has(i) ? trace.noters[i] : NONE;
    }

    public int what(int i) {
        return trace.has(i) ? trace.words[i] : 0;
    }

    public int asked() {
        return timesAsked;
    }

    public int taken() {
        return targetsTaken;
    }

    public int chain(int method, int i) {
        return isMethod(method) ? advisors.numberInChain(method, i) : NONE;
    }

    private static boolean isMethod(int method) {
        return method >= 0 && method < METHODS;
    }

    private static boolean isTarget(int target) {
        return target >= 0 && target < TARGETS;
    }

    private static boolean isException(int exception) {
        return exception >= 1 && exception <= LAST_EXCEPTION;
    }

    private static boolean isExceptionOrZero(int exception) {
        return exception == 0 || isException(exception);
    }

    private static boolean areNumbersOf(int kind, int a, int b) {
        switch (kind) {
            case BEFORE:
            case RETURNING:
            case FINALLY:
                return isException(b);
            case THROWING:
                return isException(a) && isExceptionOrZero(b);
            case RECOVER:
                return isException(a);
            default:
                return true;
        }
    }

    /** Whether the exception e IS the exception t. */
    private static boolean isKindOf(int e, int t) {
        for (int general = e; general > 0; general = general / 2) {
            if (general == t) {
                return true;
            }
        }
        return false;
    }

    private Work workOf(int target, int method) {
        return works[target * METHODS + method];
    }

    private int returned(int r) {
        value = r;
        return RETURNED;
    }

    private int thrown(int e) {
        value = e;
        return THROWN;
    }

    private int brokenOff() {
        value = 0;
        return BROKEN;
    }

    private int takeTarget() {
        targetsTaken++;
        if (targetSource != IN_TURN) {
            return targetSource;
        }
        int target = nextInTurn;
        nextInTurn = 1 - target;
        return target;
    }

    /** An invocation with so many others under way around it as depth says. */
    private int begin(int method, int argument, int depth) {
        if (depth >= MOST_INVOCATIONS) {
            return thrown(TOO_DEEP);
        }
        methodAt[depth] = method;
        targetAt[depth] = takeTarget();
        return goAlong(depth, 0, argument);
    }

    /** Goes along the chain of the invocation at depth; places are those of the whole row. */
    private int goAlong(int depth, int from, int x) {
        int place = advisors.placeInChain(methodAt[depth], from);
        if (place == NONE) {
            return workOn(depth, x);
        }
        Advisor advisor = advisors.at(place);
        if (advisor.hasRange) {
            timesAsked++;
            if (!advisor.isInRange(x)) {
                return goAlong(depth, place + 1, x);
            }
        }
        return act(advisor, depth, place + 1, x);
    }

    private int workOn(int depth, int x) {
        int method = methodAt[depth];
        Work work = workOf(targetAt[depth], method);
        if (!trace.note(FIRST_METHOD_EVENT + method, x)) {
            return brokenOff();
        }
        if (work.failsOn(x)) {
            return thrown(work.exception);
        }
        if (work.next == NONE || x <= 0) {
            return returned(work.reckon(x));
        }
        int outcome = begin(work.next, x - 1, depth + 1);
        return outcome == RETURNED ? returned(work.reckon(value)) : outcome;
    }

    private int act(Advisor advisor, int depth, int behind, int x) {
        switch (advisor.kind) {
            case BEFORE:
                return actBefore(advisor, depth, behind, x);
            case CHANGE:
                return actChange(advisor, depth, behind, x);
            case SKIP:
                return actSkip(advisor, depth, behind, x);
            case TWICE:
                return actTwice(advisor, depth, behind, x);
            case RETURNING:
                return actReturning(advisor, depth, behind, x);
            case THROWING:
                return actThrowing(advisor, depth, behind, x);
            case FINALLY:
                return actFinally(advisor, depth, behind, x);
            default:
                return actRecover(advisor, depth, behind, x);
        }
    }

    private int actBefore(Advisor advisor, int depth, int behind, int x) {
        if (!trace.note(advisor.number, x)) {
            return brokenOff();
        }
        return x == advisor.a ? thrown(advisor.b) : goAlong(depth, behind, x);
    }

    private int actChange(Advisor advisor, int depth, int behind, int x) {
        if (!trace.note(advisor.number, x)) {
            return brokenOff();
        }
        int outcome = goAlong(depth, behind, x + advisor.a);
        return outcome == RETURNED ? returned(value + advisor.b) : outcome;
    }

    private int actSkip(Advisor advisor, int depth, int behind, int x) {
        if (!trace.note(advisor.number, x)) {
            return brokenOff();
        }
        return x < advisor.a ? returned(advisor.b) : goAlong(depth, behind, x);
    }

    private int actTwice(Advisor advisor, int depth, int behind, int x) {
        if (!trace.note(advisor.number, x)) {
            return brokenOff();
        }
        int first = goAlong(depth, behind, x);
        if (first != RETURNED) {
            return first;
        }
        int r = value;
        int second = goAlong(depth, behind, x + advisor.a);
        return second == RETURNED ? returned(r + value + advisor.b) : second;
    }

    private int actReturning(Advisor advisor, int depth, int behind, int x) {
        int outcome = goAlong(depth, behind, x);
        if (outcome != RETURNED) {
            return outcome;
        }
        if (!trace.note(advisor.number, value)) {
            return brokenOff();
        }
        return value == advisor.a ? thrown(advisor.b) : RETURNED;
    }

    private int actThrowing(Advisor advisor, int depth, int behind, int x) {
        int outcome = goAlong(depth, behind, x);
        if (outcome != THROWN || !isKindOf(value, advisor.a)) {
            return outcome;
        }
        if (!trace.note(advisor.number, value)) {
            return brokenOff();
        }
        return advisor.b == 0 ? THROWN : thrown(advisor.b);
    }

    private int actFinally(Advisor advisor, int depth, int behind, int x) {
        int outcome = goAlong(depth, behind, x);
        if (outcome == BROKEN) {
            return BROKEN;
        }
        if (!trace.note(advisor.number, x)) {
            return brokenOff();
        }
        return x == advisor.a ? thrown(advisor.b) : outcome;
    }

    private int actRecover(Advisor advisor, int depth, int behind, int x) {
        int outcome = goAlong(depth, behind, x);
        if (outcome != THROWN || !isKindOf(value, advisor.a)) {
            return outcome;
        }
        if (!trace.note(advisor.number, value)) {
            return brokenOff();
        }
        return returned(advisor.b);
    }

    private static final class Advisor {
        int number = NONE;
        int kind = BEFORE;
        int order = 0;
        int methods = 0;
        int a = 0;
        int b = 0;
        boolean hasRange = false;
        int low = 0;
        int high = 0;

        void giveRange(int from, int to) {
            hasRange = true;
            low = from;
            high = to;
        }

        boolean isInRange(int x) {
            return low <= x && x <= high;
        }

        boolean advises(int method) {
            return (methods & (1 << method)) != 0;
        }

        boolean standsBefore(Advisor other) {
            return order < other.order || (order == other.order && number < other.number);
        }
    }

    /**
     * The advisors that are there, kept as all chains want them, so that a method's chain is the
     * row without the advisors that don't advise it. Behind them wait the ones to be used next.
     */
    private static final class AdvisorRow {
        private final Advisor[] row = new Advisor[MOST_ADVISORS];
        private int there = 0;
        private int nextNumber = 0;

        AdvisorRow() {
            for (int i = 0; i < row.length; i++) {
                row[i] = new Advisor();
            }
        }

        boolean isFull() {
            return there == MOST_ADVISORS;
        }

        Advisor at(int place) {
            return row[place];
        }

        int placeOf(int number) {
            for (int place = 0; place < there; place++) {
                if (row[place].number == number) {
                    return place;
                }
            }
            return NONE;
        }

        /** The first place of the method's chain that is not before the given one, or NONE. */
        int placeInChain(int method, int from) {
            for (int place = from; place < there; place++) {
                if (row[place].advises(method)) {
                    return place;
                }
            }
            return NONE;
        }

        int numberInChain(int method, int i) {
            int before = 0;
            for (int place = 0; place < there; place++) {
                if (row[place].advises(method)) {
                    if (before == i) {
                        return row[place].number;
                    }
                    before++;
                }
            }
            return NONE;
        }

        /** To be called only when the row is not full. */
        int make(int kind, int order, int methods, int a, int b) {
            Advisor made = row[there];
            made.number = nextNumber;
            made.kind = kind;
            made.order = order;
            made.methods = methods;
            made.a = a;
            made.b = b;
            made.hasRange = false;
            nextNumber++;
            there++;
            settle(there - 1);
            return made.number;
        }

        void move(int place, int order) {
            row[place].order = order;
            settle(place);
        }

        void takeAway(int place) {
            there--;
            for (int at = place; at < there; at++) {
                swapWithNext(at);
            }
        }

        /** Brings the one advisor that may stand wrong to where it belongs. */
        private void settle(int place) {
            for (int at = place; at > 0 && row[at].standsBefore(row[at - 1]); at--) {
                swapWithNext(at - 1);
            }
            for (int at = place; at + 1 < there && row[at + 1].standsBefore(row[at]); at++) {
                swapWithNext(at);
            }
        }

        private void swapWithNext(int place) {
            Advisor left = row[place];
            row[place] = row[place + 1];
            row[place + 1] = left;
        }
    }

    /** What one target does in one method. */
    private static final class Work {
        int factor = 1;
        int addend = 0;
        int failsAt = 0;
        int exception = 0;
        int next = NONE;

        boolean failsOn(int x) {
            return exception != 0 && x == failsAt;
        }

        int reckon(int x) {
            return factor * x + addend;
        }
    }

    /** The events of the latest invoke(). */
    private static final class Trace {
        final int[] noters = new int[MOST_EVENTS];
        final int[] words = new int[MOST_EVENTS];
        int length = 0;

        void clear() {
            length = 0;
        }

        boolean has(int i) {
            return i >= 0 && i < length;
        }

        /** Answers false, and notes nothing, when there is no room for one more event. */
        boolean note(int noter, int word) {
            if (length >= MOST_EVENTS) {
                return false;
            }
            noters[length] = noter;
            words[length] = word;
            length++;
            return true;
        }
    }
}
