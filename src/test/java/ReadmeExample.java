/** How the class is used; README.md shows this file and what it prints. */
public final class ReadmeExample {
    public static void main(String[] args) {
        AdviceLinks links = new AdviceLinks();
        links.plan(0, 2, 3, 1); // in method 2 target 0 returns 3 * x + 1 ..
        links.fail(0, 2, 9, 6); // .. but throws exception 6 at the argument 9
        int change = links.advise(1, 10, 1 << 2, 2, 100); // CHANGE: goes on with x + 2, returns r + 100
        links.advise(7, 20, 1 << 2, 3, -1); // RECOVER, behind CHANGE: returns -1 for exception 3 (as 6 is)
        links.when(change, 0, 7); // CHANGE acts at the arguments 0 .. 7 alone
        show(links, 2, 5);
        show(links, 2, 7);
        show(links, 2, 9);
        show(links, 2, 8);
    }

    private static void show(AdviceLinks links, int method, int argument) {
        int outcome = links.invoke(method, argument);
        System.out.print("invoke(" + method + ", " + argument + ") ");
        System.out.print(outcome == AdviceLinks.RETURNED ? "returned " : "threw ");
        System.out.print(links.result() + ":");
        for (int i = 0; i < links.events(); i++) {
            System.out.print(" (" + links.who(i) + ", " + links.what(i) + ")");
        }
        System.out.println();
    }
}
