public final class Promise03WaitsTest {
    public static void main(String[] args) {
        Due due = new Due();
        refusals(due);
        refusalsChangeNothing(due);
        untilTheOtherHasDoneAsMany(due);
        untilTheOtherHasEnded(due);
        theOneToldLastCounts(due);
        forOneThatHasEndedIsTaken(due);
        waitingForEachOther(due);
        due.end();
    }

    private static void refusals(Due due) {
        CarThreads x = new CarThreads();
        x.node(3, 0);
        x.node(5, 0);
        int[][] wrong = {
            {0, 1, 2}, {3, 1, 2}, {-1, 1, 2}, {1, 1, 0}, {1, 1, 3}, {1, 1, -1}, {1, 1, 1}, {2, 2, 2},
            {1, 0, 2}, {1, -1, 2}, {1, 4, 2}, {2, 6, 1}, {1, Integer.MAX_VALUE, 2},
            {1, Integer.MIN_VALUE, 2}, {Integer.MAX_VALUE, 1, 2}, {1, 1, Integer.MIN_VALUE},
        };
        for (int[] w : wrong) {
            due.is("waits(" + w[0] + ", " + w[1] + ", " + w[2] + ")", x.waits(w[0], w[1], w[2]), false);
        }
        due.is("first step", x.waits(1, 1, 2), true);
        due.is("last step", x.waits(1, 3, 2), true);
        due.is("last step of the longer", x.waits(2, 5, 1), true);
    }

    private static void refusalsChangeNothing(Due due) {
        CarThreads x = new CarThreads();
        x.node(2, 0);
        x.node(2, 0);
        x.waits(1, 1, 1);
        x.waits(1, 3, 2);
        due.is("run", x.run(), 2);
        due.logIs("nobody waited", x, 1001, 2001, 1002, 2002);
    }

    private static void untilTheOtherHasDoneAsMany(Due due) {
        CarThreads x = new CarThreads();
        x.node(3, 0);
        x.node(4, 0);
        x.waits(1, 2, 2);
        x.waits(2, 1, 1);
        due.is("run", x.run(), 5);
        due.logIs("as many", x, 1001, 2001, 2002, 1002, 2003, 1003, 2004);
        due.is("neither alive", x.waits(1, 3, 2), false);

        CarThreads y = new CarThreads();
        y.node(3, 0);
        y.node(3, 0);
        y.node(1, 0);
        y.waits(1, 3, 2);
        y.waits(2, 3, 1);
        due.is("run to the deadlock", y.run(), 2);
        due.is("a step that was done", y.waits(1, 2, 3), false);
        due.is("a step that was not done", y.waits(1, 3, 3), true);
        due.is("run on", y.run(), 2);
        due.logIs("run on", y, 1001, 2001, 3001, 1002, 2002, 1003, 2003);
    }

    private static void untilTheOtherHasEnded(Due due) {
        CarThreads x = new CarThreads();
        x.node(4, 0);
        x.node(1, 0);
        x.node(4, 2);
        x.waits(1, 2, 3);
        x.waits(1, 4, 2);
        due.is("run", x.run(), 5);
        due.logIs("ended", x, 1001, 2001, 3001, 1002, 1003, 1004);
    }

    private static void theOneToldLastCounts(Due due) {
        CarThreads x = new CarThreads();
        x.node(1, 0);
        x.node(1, 0);
        x.node(5, 0);
        x.waits(3, 1, 2);
        x.waits(2, 1, 3);
        due.is("told again", x.waits(2, 1, 1), true);
        due.is("run", x.run(), 7);
        due.logIs("told last", x, 1001, 2001, 3001, 3002, 3003, 3004, 3005);
    }

    private static void forOneThatHasEndedIsTaken(Due due) {
        CarThreads x = new CarThreads();
        x.node(1, 0);
        x.close();
        x.node(2, 0);
        due.is("for an ended one", x.waits(2, 1, 1), true);
        due.is("by an ended one", x.waits(1, 1, 2), false);
        due.is("run", x.run(), 2);
    }

    private static void waitingForEachOther(Due due) {
        CarThreads x = new CarThreads();
        x.node(2, 0);
        x.node(2, 0);
        x.node(2, 0);
        x.waits(1, 1, 2);
        x.waits(2, 1, 3);
        x.waits(3, 1, 1);
        due.is("a ring", x.run(), 0);
        x.cut(2, 0);
        due.is("a ring that was cut", x.run(), 3);
        due.logIs("ring", x, 1001, 1002, 3001, 3002);
    }
}
