/** Ordinary uses of promises 2 (advise), 3 (when), 4 (reorder), 5 (remove), 6 (freeze) and 18 (chain). */
public final class AdvisorsTest {
    private static final int NONE = AdviceLinks.NONE;
    private static final int LOWEST = Integer.MIN_VALUE;
    private static final int HIGHEST = Integer.MAX_VALUE;
    private static final Due DUE = new Due();

    public static void main(String[] args) {
        adviseAnswersNumbers();
        whenGivesRanges();
        reorderMoves();
        removeTakesAway();
        freezeKeepsAdvisors();
        DUE.end();
    }

    private static void adviseAnswersNumbers() {
        AdviceLinks x = new AdviceLinks();
        DUE.is("2: first", x.advise(1, 5, 63, LOWEST, HIGHEST), 0);
        DUE.is("2: refused", x.advise(8, 5, 63, 0, 0), NONE);
        DUE.is("2: a refused one uses no number", x.advise(2, LOWEST, 1, LOWEST, LOWEST), 1);
        DUE.is("2: highest order", x.advise(3, HIGHEST, 32, HIGHEST, HIGHEST), 2);
        DUE.is("2: equal order", x.advise(3, 5, 33, 0, 0), 3);
        DUE.chain("2", x, 0, 1, 0, 3);
        DUE.chain("2", x, 1, 0);
        DUE.chain("2", x, 5, 0, 3, 2);
    }

    private static void whenGivesRanges() {
        AdviceLinks x = new AdviceLinks();
        x.advise(1, 0, 1, 100, 0);
        DUE.yes("3: one number", x.when(0, 5, 5));
        DUE.invokes("3: below", x, 0, 4, AdviceLinks.RETURNED, 4, 100, 4);
        DUE.is("3: asked", x.asked(), 1);
        DUE.invokes("3: in", x, 0, 5, AdviceLinks.RETURNED, 105, 0, 5, 100, 105);
        DUE.is("3: asked", x.asked(), 1);
        DUE.invokes("3: above", x, 0, 6, AdviceLinks.RETURNED, 6, 100, 6);
        DUE.yes("3: another range", x.when(0, -2, 4));
        DUE.invokes("3: low end", x, 0, -2, AdviceLinks.RETURNED, 98, 0, -2, 100, 98);
        DUE.invokes("3: below low end", x, 0, -3, AdviceLinks.RETURNED, -3, 100, -3);
        DUE.invokes("3: high end", x, 0, 4, AdviceLinks.RETURNED, 104, 0, 4, 100, 104);
        DUE.invokes("3: the old range is gone", x, 0, 5, AdviceLinks.RETURNED, 5, 100, 5);
        DUE.yes("3: all", x.when(0, LOWEST, HIGHEST));
        DUE.invokes("3: lowest", x, 0, LOWEST, AdviceLinks.RETURNED, LOWEST + 100, 0, LOWEST, 100, LOWEST + 100);
        DUE.invokes("3: highest", x, 0, HIGHEST, AdviceLinks.RETURNED, HIGHEST + 100, 0, HIGHEST, 100, HIGHEST + 100);
    }

    private static void reorderMoves() {
        AdviceLinks x = new AdviceLinks();
        DUE.no("4: none is there", x.reorder(0, 1));
        for (int i = 0; i < 5; i++) {
            x.advise(1, 10 * i, 3, 0, 0);
        }
        DUE.yes("4: the same order", x.reorder(2, 20));
        DUE.chain("4: same", x, 0, 0, 1, 2, 3, 4);
        DUE.yes("4: to the end", x.reorder(0, HIGHEST));
        DUE.chain("4: to the end", x, 0, 1, 2, 3, 4, 0);
        DUE.yes("4: to the beginning", x.reorder(4, LOWEST));
        DUE.chain("4: to the beginning", x, 1, 4, 1, 2, 3, 0);
        DUE.yes("4: an equal order, lower number", x.reorder(1, 30));
        DUE.chain("4: equal", x, 0, 4, 2, 1, 3, 0);
        DUE.yes("4: an equal order, higher number", x.reorder(3, 20));
        DUE.chain("4: equal", x, 0, 4, 2, 3, 1, 0);
        DUE.yes("4: all equal", x.reorder(4, 20) && x.reorder(0, 20) && x.reorder(1, 20));
        DUE.chain("4: all equal", x, 0, 0, 1, 2, 3, 4);
        DUE.no("4: no such advisor", x.reorder(5, 0) || x.reorder(NONE, 0) || x.reorder(HIGHEST, 0));
        x.remove(2);
        DUE.no("4: removed", x.reorder(2, 0));
        DUE.chain("4: removed", x, 0, 0, 1, 3, 4);
    }

    private static void removeTakesAway() {
        AdviceLinks x = new AdviceLinks();
        DUE.no("5: none is there", x.remove(0));
        for (int i = 0; i < 6; i++) {
            x.advise(1, -i, 1 + i, 1 << i, 0);
        }
        DUE.yes("5: the middle", x.remove(2));
        DUE.no("5: twice", x.remove(2));
        DUE.chain("5: middle", x, 0, 4, 0);
        DUE.chain("5: middle", x, 1, 5, 1);
        DUE.chain("5: middle", x, 2, 5, 4, 3);
        DUE.yes("5: the first", x.remove(5));
        DUE.yes("5: the last", x.remove(0));
        DUE.chain("5: ends", x, 0, 4);
        DUE.chain("5: ends", x, 1, 1);
        DUE.chain("5: ends", x, 2, 4, 3);
        DUE.invokes("5", x, 2, 0, AdviceLinks.RETURNED, 24, 4, 0, 3, 16, 102, 24);
        DUE.no("5: no such advisor", x.remove(6) || x.remove(NONE) || x.remove(LOWEST));
        DUE.yes("5: the rest", x.remove(1) && x.remove(3) && x.remove(4));
        DUE.chain("5: the rest", x, 2);
        DUE.is("5: the next number", x.advise(1, 0, 4, 0, 0), 6);
    }

    private static void freezeKeepsAdvisors() {
        AdviceLinks x = new AdviceLinks();
        x.advise(1, 0, 1, 1, 0);
        x.advise(1, 1, 1, 2, 0);
        x.freeze(true);
        x.freeze(true);
        DUE.is("6: advise", x.advise(1, 0, 1, 0, 0), NONE);
        DUE.no("6: when", x.when(0, 50, 60));
        DUE.no("6: reorder", x.reorder(0, 7));
        DUE.no("6: reorder, the same", x.reorder(0, 0));
        DUE.no("6: remove", x.remove(1));
        DUE.chain("6: nothing changed", x, 0, 0, 1);
        DUE.yes("6: plan", x.plan(0, 0, 2, 0));
        DUE.yes("6: fail", x.fail(0, 0, 99, 3));
        DUE.yes("6: calls", x.calls(0, 0, NONE));
        DUE.yes("6: source", x.source(0));
        DUE.invokes("6: invoke", x, 0, 4, AdviceLinks.RETURNED, 14, 0, 4, 1, 5, 100, 7);
        DUE.is("6: asked", x.asked(), 0);
        x.freeze(false);
        DUE.is("6: the refused one used no number", x.advise(1, 0, 1, 0, 0), 2);
        DUE.yes("6: no more", x.when(0, 50, 60) && x.reorder(0, 7) && x.remove(1));
        DUE.chain("6: no more", x, 0, 2, 0);
    }
}
