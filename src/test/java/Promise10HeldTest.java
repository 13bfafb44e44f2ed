public final class Promise10HeldTest {
    public static void main(String[] args) {
        Due due = new Due();
        holdingAndTelling(due);
        refusalsInTheirOrder(due);
        freeHoweverANodeEnds(due);
        due.end();
    }

    private static void holdingAndTelling(Due due) {
        CarThreads x = new CarThreads();
        x.node(3, 0);
        x.node(3, 0);
        due.is("none", x.held(1, 0), 0);
        for (int thing = 1; thing <= 15; thing++) {
            due.is("thing " + thing, x.held(1, thing), thing);
        }
        due.is("the last for 2", x.held(2, 16), 1);
        due.is("1 tells", x.held(1, 0), 15);
        due.is("2 tells", x.held(2, 0), 1);
        due.is("held by another", x.held(1, 16), -3);
        due.is("held by itself", x.held(1, 1), -3);
        due.is("1 tells the same", x.held(1, 0), 15);
    }

    private static void refusalsInTheirOrder(Due due) {
        CarThreads x = new CarThreads();
        x.node(3, 0);
        x.node(1, 0);
        for (int what : new int[] {-1, 17, Integer.MAX_VALUE, Integer.MIN_VALUE}) {
            due.is("no such thing " + what, x.held(1, what), -2);
            due.is("no node, nor " + what, x.held(3, what), -1);
        }
        for (int node : new int[] {0, -1, 3, 31, Integer.MAX_VALUE, Integer.MIN_VALUE}) {
            due.is("no node " + node, x.held(node, 1), -1);
            due.is("no node tells " + node, x.held(node, 0), -1);
        }
        x.waits(1, 1, 2);
        x.cut(2, 0);
        x.cut(1, 1);
        x.run();
        due.is("ended", x.held(2, 1), -3);
        due.is("ended, no such thing", x.held(2, 17), -2);
        due.is("ended, tells", x.held(2, 0), 0);
    }

    private static void freeHoweverANodeEnds(Due due) {
        CarThreads x = new CarThreads();
        x.node(2, 0);
        x.node(3, 2);
        x.node(3, 0);
        x.node(3, 0);
        x.node(3, 0);
        x.node(3, 0);
        for (int n = 1; n <= 6; n++) {
            x.held(n, n);
            due.is("two of " + n, x.held(n, n + 10), 2);
        }
        x.interrupt(3);
        x.cut(4, 1);
        x.waits(5, 1, 6);
        x.waits(6, 1, 5);
        due.is("run", x.run(), 2);
        for (int n = 1; n <= 4; n++) {
            due.is(n + " holds none", x.held(n, 0), 0);
            due.is("free of " + n, x.held(5, n), 2 + 2 * n - 1);
            due.is("free of " + n + " as well", x.held(5, n + 10), 2 + 2 * n);
        }
        due.is("6 goes on holding", x.held(6, 0), 2);
        due.is("its thing is not free", x.held(5, 16), -3);
        due.is("close", x.close(), 2);
        x.node(1, 0);
        for (int thing = 1; thing <= 16; thing++) {
            due.is("free after close: " + thing, x.held(7, thing), thing);
        }
    }
}
