/** The boundaries of the eight kinds of advisors. */
public final class KindsEdgesTest {
    private static final int RETURNED = AdviceLinks.RETURNED;
    private static final int THROWN = AdviceLinks.THROWN;
    private static final int LOWEST = Integer.MIN_VALUE;
    private static final int HIGHEST = Integer.MAX_VALUE;
    private static final Due DUE = new Due();

    public static void main(String[] args) {
        DUE.test("0 BEFORE: if x is a, it throws b", KindsEdgesTest::beforeThrows);
        DUE.test("0 BEFORE: otherwise it goes on with x", KindsEdgesTest::beforeGoesOn);
        DUE.test("1 CHANGE: it goes on with x + a; it returns r + b", KindsEdgesTest::change);
        DUE.test("1 CHANGE: only if that returns", KindsEdgesTest::changeThrows);
        DUE.test("2 SKIP: if x is less than a, it returns b", KindsEdgesTest::skip);
        DUE.test("2 SKIP: the lowest and the highest a", KindsEdgesTest::skipAtTheEnds);
        DUE.test("3 TWICE: it goes on with x, once more with x + a", KindsEdgesTest::twice);
        DUE.test("3 TWICE: if that returns r", KindsEdgesTest::twiceFirstThrows);
        DUE.test("3 TWICE: if that returns s", KindsEdgesTest::twiceSecondThrows);
        DUE.test("4 RETURNING: if r is a, it throws b", KindsEdgesTest::returning);
        DUE.test("4 RETURNING: only if that returns", KindsEdgesTest::returningThrows);
        DUE.test("5 THROWING: it throws b, or e if b is 0", KindsEdgesTest::throwing);
        DUE.test("5 THROWING: only if that throws e, and e is exception a", KindsEdgesTest::throwingOthers);
        DUE.test("6 FINALLY: event x in any case", KindsEdgesTest::lastlyInAnyCase);
        DUE.test("6 FINALLY: if x is a, it throws b", KindsEdgesTest::lastlyThrows);
        DUE.test("7 RECOVER: it returns b", KindsEdgesTest::recover);
        DUE.test("7 RECOVER: only if that throws e, and e is exception a", KindsEdgesTest::recoverOthers);
        DUE.end();
    }

    /** The target returns 2 * x, but at 66 it throws 6; one advisor stands before it. */
    private static AdviceLinks with(int kind, int a, int b) {
        AdviceLinks x = new AdviceLinks();
        x.plan(0, 0, 2, 0);
        x.fail(0, 0, 66, 6);
        DUE.is("advise(" + kind + ", 0, 1, " + a + ", " + b + ")", x.advise(kind, 0, 1, a, b), 0);
        return x;
    }

    private static void beforeThrows() {
        int[] all = {LOWEST, -1, 0, 1, 66, HIGHEST};
        for (int a : all) {
            DUE.invokes("x is a", with(0, a, 1), 0, a, THROWN, 1, 0, a);
            DUE.invokes("x is a", with(0, a, 15), 0, a, THROWN, 15, 0, a);
        }
    }

    private static void beforeGoesOn() {
        int[] all = {LOWEST, -1, 0, 1, HIGHEST};
        for (int a : all) {
            AdviceLinks x = with(0, a, 1);
            DUE.invokes("x is a - 1", x, 0, a - 1, RETURNED, 2 * (a - 1), 0, a - 1, 100, a - 1);
            DUE.invokes("x is a + 1", x, 0, a + 1, RETURNED, 2 * (a + 1), 0, a + 1, 100, a + 1);
        }
        DUE.invokes("r is a", with(0, 10, 1), 0, 5, RETURNED, 10, 0, 5, 100, 5);
    }

    private static void change() {
        DUE.invokes("by nothing", with(1, 0, 0), 0, 5, RETURNED, 10, 0, 5, 100, 5);
        DUE.invokes("x + a alone", with(1, -7, 0), 0, 5, RETURNED, -4, 0, 5, 100, -2);
        DUE.invokes("r + b alone", with(1, 0, -7), 0, 5, RETURNED, 3, 0, 5, 100, 5);
        DUE.invokes("both", with(1, 1, 100), 0, 5, RETURNED, 112, 0, 5, 100, 6);
    }

    private static void changeThrows() {
        AdviceLinks x = with(1, 1, 100);
        DUE.invokes("x + a is where it fails", x, 0, 65, THROWN, 6, 0, 65, 100, 66);
        DUE.invokes("x is where it fails", x, 0, 66, RETURNED, 234, 0, 66, 100, 67);
    }

    private static void skip() {
        int[] all = {-1, 0, 1, 40};
        for (int a : all) {
            AdviceLinks x = with(2, a, -9);
            DUE.invokes("one less", x, 0, a - 1, RETURNED, -9, 0, a - 1);
            DUE.invokes("equal", x, 0, a, RETURNED, 2 * a, 0, a, 100, a);
            DUE.invokes("one more", x, 0, a + 1, RETURNED, 2 * a + 2, 0, a + 1, 100, a + 1);
            DUE.invokes("the lowest", x, 0, LOWEST, RETURNED, -9, 0, LOWEST);
            DUE.invokes("the highest", x, 0, HIGHEST, RETURNED, -2, 0, HIGHEST, 100, HIGHEST);
        }
        DUE.invokes("where it fails, but less", with(2, 67, -9), 0, 66, RETURNED, -9, 0, 66);
        DUE.invokes("where it fails", with(2, 66, -9), 0, 66, THROWN, 6, 0, 66, 100, 66);
    }

    private static void skipAtTheEnds() {
        DUE.invokes("nothing is less", with(2, LOWEST, -9), 0, LOWEST, RETURNED, 0, 0, LOWEST, 100, LOWEST);
        DUE.invokes("only the lowest is less", with(2, LOWEST + 1, -9), 0, LOWEST, RETURNED, -9, 0, LOWEST);
        AdviceLinks x = with(2, HIGHEST, -9);
        DUE.invokes("the lowest", x, 0, LOWEST, RETURNED, -9, 0, LOWEST);
        DUE.invokes("the last that is less", x, 0, HIGHEST - 1, RETURNED, -9, 0, HIGHEST - 1);
        DUE.invokes("only the highest is not less", x, 0, HIGHEST, RETURNED, -2, 0, HIGHEST, 100, HIGHEST);
        DUE.invokes("the lowest b", with(2, 0, LOWEST), 0, -1, RETURNED, LOWEST, 0, -1);
        DUE.invokes("the highest b", with(2, 0, HIGHEST), 0, -1, RETURNED, HIGHEST, 0, -1);
    }

    private static void twice() {
        DUE.invokes("the same x", with(3, 0, 0), 0, 5, RETURNED, 20, 0, 5, 100, 5, 100, 5);
        DUE.invokes("x + a", with(3, -7, 0), 0, 5, RETURNED, 6, 0, 5, 100, 5, 100, -2);
        DUE.invokes("r + s + b", with(3, 1, 100), 0, 5, RETURNED, 122, 0, 5, 100, 5, 100, 6);
        AdviceLinks x = with(3, 1, 100);
        x.advise(3, 1, 1, 10, 1000);
        DUE.invokes("twice in twice", x, 0, 5, RETURNED, 2184,
            0, 5, 1, 5, 100, 5, 100, 15, 1, 6, 100, 6, 100, 16);
    }

    private static void twiceFirstThrows() {
        AdviceLinks x = with(3, 1, 100);
        DUE.invokes("not once more", x, 0, 66, THROWN, 6, 0, 66, 100, 66);
        DUE.invokes("beside it", x, 0, 67, RETURNED, 370, 0, 67, 100, 67, 100, 68);
    }

    private static void twiceSecondThrows() {
        AdviceLinks x = with(3, 1, 100);
        DUE.invokes("thrown on", x, 0, 65, THROWN, 6, 0, 65, 100, 65, 100, 66);
        DUE.invokes("beside it", x, 0, 64, RETURNED, 358, 0, 64, 100, 64, 100, 65);
    }

    private static void returning() {
        int[] all = {-2, 0, 2, 10, LOWEST};
        for (int a : all) {
            int half = a / 2;
            AdviceLinks x = with(4, a, 12);
            DUE.invokes("r is a", x, 0, half, THROWN, 12, 100, half, 0, a);
            DUE.invokes("r is a - 2", x, 0, half - 1, RETURNED, a - 2, 100, half - 1, 0, a - 2);
            DUE.invokes("r is a + 2", x, 0, half + 1, RETURNED, a + 2, 100, half + 1, 0, a + 2);
        }
        DUE.invokes("x is a", with(4, 10, 12), 0, 10, RETURNED, 20, 100, 10, 0, 20);
        DUE.invokes("b is 1", with(4, 10, 1), 0, 5, THROWN, 1, 100, 5, 0, 10);
        DUE.invokes("b is 15", with(4, 10, 15), 0, 5, THROWN, 15, 100, 5, 0, 10);
    }

    private static void returningThrows() {
        DUE.invokes("no event", with(4, 10, 12), 0, 66, THROWN, 6, 100, 66);
        DUE.invokes("e is no r", with(4, 6, 12), 0, 66, THROWN, 6, 100, 66);
        DUE.invokes("x is no r", with(4, 66, 12), 0, 66, THROWN, 6, 100, 66);
    }

    private static void throwing() {
        int[] coarser = {1, 3, 6};
        for (int a : coarser) {
            DUE.invokes("e", with(5, a, 0), 0, 66, THROWN, 6, 100, 66, 0, 6);
            DUE.invokes("b, the lowest", with(5, a, 1), 0, 66, THROWN, 1, 100, 66, 0, 6);
            DUE.invokes("b, the highest", with(5, a, 15), 0, 66, THROWN, 15, 100, 66, 0, 6);
        }
    }

    private static void throwingOthers() {
        int[] others = {2, 4, 5, 7, 12, 13, 15};
        for (int a : others) {
            DUE.invokes("6 is not exception " + a, with(5, a, 1), 0, 66, THROWN, 6, 100, 66);
            DUE.invokes("6 is not exception " + a, with(5, a, 0), 0, 66, THROWN, 6, 100, 66);
        }
        DUE.invokes("r is no e", with(5, 6, 1), 0, 3, RETURNED, 6, 100, 3);
        DUE.invokes("beside it", with(5, 6, 1), 0, 65, RETURNED, 130, 100, 65);
        DUE.invokes("beside it", with(5, 6, 1), 0, 67, RETURNED, 134, 100, 67);
    }

    private static void lastlyInAnyCase() {
        AdviceLinks x = with(6, 4, 13);
        DUE.invokes("after a result", x, 0, 65, RETURNED, 130, 100, 65, 0, 65);
        DUE.invokes("after an exception", x, 0, 66, THROWN, 6, 100, 66, 0, 66);
        DUE.invokes("after a result", x, 0, 67, RETURNED, 134, 100, 67, 0, 67);
        DUE.invokes("r is a", x, 0, 2, RETURNED, 4, 100, 2, 0, 2);
        DUE.invokes("e is a", with(6, 6, 13), 0, 66, THROWN, 6, 100, 66, 0, 66);
    }

    private static void lastlyThrows() {
        int[] all = {LOWEST, -1, 0, 1, HIGHEST};
        for (int a : all) {
            AdviceLinks x = with(6, a, 13);
            DUE.invokes("x is a - 1", x, 0, a - 1, RETURNED, 2 * (a - 1), 100, a - 1, 0, a - 1);
            DUE.invokes("x is a", x, 0, a, THROWN, 13, 100, a, 0, a);
            DUE.invokes("x is a + 1", x, 0, a + 1, RETURNED, 2 * (a + 1), 100, a + 1, 0, a + 1);
        }
        DUE.invokes("over an exception, b is 1", with(6, 66, 1), 0, 66, THROWN, 1, 100, 66, 0, 66);
        DUE.invokes("over an exception, b is 15", with(6, 66, 15), 0, 66, THROWN, 15, 100, 66, 0, 66);
    }

    private static void recover() {
        int[] coarser = {1, 3, 6};
        int[] any = {LOWEST, -1, 0, 1, 15, 16, HIGHEST};
        for (int a : coarser) {
            for (int b : any) {
                DUE.invokes("6 is exception " + a, with(7, a, b), 0, 66, RETURNED, b, 100, 66, 0, 6);
            }
        }
    }

    private static void recoverOthers() {
        int[] others = {2, 4, 5, 7, 12, 13, 15};
        for (int a : others) {
            DUE.invokes("6 is not exception " + a, with(7, a, 99), 0, 66, THROWN, 6, 100, 66);
        }
        DUE.invokes("r is no e", with(7, 6, 99), 0, 3, RETURNED, 6, 100, 3);
        DUE.invokes("beside it", with(7, 6, 99), 0, 65, RETURNED, 130, 100, 65);
        DUE.invokes("beside it", with(7, 6, 99), 0, 67, RETURNED, 134, 100, 67);
    }
}
