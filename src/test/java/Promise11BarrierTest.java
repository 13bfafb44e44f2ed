public final class Promise11BarrierTest {
    public static void main(String[] args) {
        Due due = new Due();
        sizes(due);
        waitsForAllThatAreAlive(due);
        onlyBeforeItsSteps(due);
        aNewNodeHoldsTheOthersBack(due);
        endedOnesHoldNobodyBack(due);
        mayChangeBetweenRuns(due);
        due.end();
    }

    private static void sizes(Due due) {
        CarThreads x = new CarThreads();
        due.is("at first", x.barrier(7), 0);
        due.is("then", x.barrier(200), 7);
        for (int kind : new int[] {-1, 201, Integer.MAX_VALUE, Integer.MIN_VALUE}) {
            due.is("outside " + kind, x.barrier(kind), -2);
        }
        due.is("refusals change nothing", x.barrier(1), 200);
        due.is("none", x.barrier(0), 1);
        due.is("none again", x.barrier(0), 0);
    }

    private static void waitsForAllThatAreAlive(Due due) {
        CarThreads x = new CarThreads();
        x.node(3, 0);
        x.node(3, 0);
        x.node(1, 0);
        x.barrier(1);
        x.waits(2, 1, 3);
        due.is("run", x.run(), 4);
        due.logIs("size 1", x, 1001, 3001, 2001, 1002, 2002, 1003, 2003);
    }

    private static void onlyBeforeItsSteps(Due due) {
        CarThreads x = new CarThreads();
        x.node(5, 0);
        x.node(5, 0);
        x.barrier(2);
        x.waits(2, 1, 1);
        due.is("run", x.run(), 6);
        due.logIs("before 3 and 5", x,
            1001, 1002, 2001, 2002, 1003, 2003, 1004, 2004, 1005, 2005);
    }

    private static void aNewNodeHoldsTheOthersBack(Due due) {
        CarThreads x = new CarThreads();
        x.node(4, 0);
        x.node(4, 0);
        x.node(1, 0);
        x.barrier(2);
        x.waits(1, 3, 2);
        x.waits(2, 3, 1);
        due.is("until both wait", x.run(), 2);
        x.node(3, 0);
        x.waits(1, 3, 3);
        due.is("run", x.run(), 5);
        due.logIs("held back", x, 1001, 2001, 3001, 1002, 2002,
            4001, 4002, 1003, 4003, 1004, 2003, 2004);
    }

    private static void endedOnesHoldNobodyBack(Due due) {
        CarThreads x = new CarThreads();
        x.node(3, 0);
        x.node(3, 2);
        x.node(3, 0);
        x.barrier(2);
        x.waits(3, 1, 2);
        x.cut(3, 1);
        due.is("run", x.run(), 3);
        due.logIs("failed and cut ones", x, 1001, 2001, 1002, 1003);
    }

    private static void mayChangeBetweenRuns(Due due) {
        CarThreads x = new CarThreads();
        x.node(4, 0);
        x.node(4, 0);
        x.node(4, 0);
        x.barrier(200);
        x.waits(2, 2, 3);
        x.waits(3, 2, 2);
        x.waits(1, 4, 2);
        due.is("until all wait", x.run(), 3);
        x.barrier(3);
        x.waits(3, 2, 1);
        due.is("run", x.run(), 5);
        due.logIs("size 3", x, 1001, 2001, 3001, 1002, 1003,
            3002, 2002, 3003, 2003, 2004, 3004, 1004);
    }
}
