/** Promise 8, at its edges: the microseconds that may be told, and the refusals in their order. */
public final class Edge08CutTest {
    private static final long[] FAR = {
        Integer.MAX_VALUE, 1L << 31, (1L << 32) - 1, 1L << 32, (1L << 32) + 1, (1L << 32) + 2,
        Long.MAX_VALUE - 1, Long.MAX_VALUE,
    };
    private static final long[] BEFORE_0 = {
        -1, -2, Integer.MIN_VALUE, -(1L << 32), -(1L << 32) + 1, Long.MIN_VALUE, Long.MIN_VALUE + 1,
    };

    public static void main(String[] args) {
        Due due = new Due();
        noSuchNode(due);
        theFirstMicroseconds(due);
        whatHasBeenDone(due);
        farAwayIsTakenAndNeverComes(due);
        oneThatIsNotAlive(due);
        theFirstRefusalThatFits(due);
        insteadOfOneToldBefore(due);
        aRefusalLeavesTheOneToldBefore(due);
        cutAtItsFirstAndItsLastStep(due);
        cutInALaterRun(due);
        toldForLaterThanItsEnd(due);
        due.end();
    }

    /** "-1 there is none": before -2, whatever microsecond is told. */
    private static void noSuchNode(Due due) {
        CarThreads x = Edges.nodes(2, 1);
        for (int n : Edges.outside(1, 2)) {
            for (long micro : new long[] {0, 1, -1, Long.MIN_VALUE, Long.MAX_VALUE}) {
                due.is("cut(" + n + ", " + micro + ")", x.cut(n, micro), -1);
            }
        }
        due.is("nobody was cut", x.run(), 1);
        due.logIs("both stepped", x, 1001, 2001);
        due.is("unknown, in one that was done", x.cut(3, 0), -1);
    }

    private static void theFirstMicroseconds(Due due) {
        CarThreads x = Edges.nodes(3, 2);
        for (long micro : BEFORE_0) {
            due.is("cut(1, " + micro + ")", x.cut(1, micro), -2);
        }
        due.is("cut(2, 0)", x.cut(2, 0), 1);
        due.is("cut(3, 1)", x.cut(3, 1), 1);
        due.is("run()", x.run(), 2);
        due.logIs("1 is not cut, 2 is in 0, 3 is in 1", x, 1001, 3001, 1002);
    }

    /** "-2 that has been done". */
    private static void whatHasBeenDone(Due due) {
        CarThreads x = Edges.nodes(1, 200);
        due.is("run()", x.run(), 200);
        x.node(2, 0);
        for (long micro : new long[] {0, 1, 198, 199, -1, Long.MIN_VALUE}) {
            due.is("cut(2, " + micro + ")", x.cut(2, micro), -2);
        }
        due.is("cut(2, 201)", x.cut(2, 201), 1);
        due.is("cut(2, 200)", x.cut(2, 200), 1);
        due.is("it ends in 200", x.run(), 0);
        due.is("finished(2)", x.finished(2), 1);
    }

    private static void farAwayIsTakenAndNeverComes(Due due) {
        for (long micro : FAR) {
            CarThreads x = Edges.nodes(1, 200);
            due.is("cut(1, " + micro + ")", x.cut(1, micro), 1);
            due.is("run() with " + micro, x.run(), 200);
            due.is("log(199) with " + micro, x.log(199), 1200);
            due.is("ended: cut(1, " + micro + ")", x.cut(1, micro), -3);
        }
    }

    /** "-3 it is not ALIVE". */
    private static void oneThatIsNotAlive(Due due) {
        CarThreads x = Edges.eachEnded();
        for (int n = 1; n <= Edges.ENDED; n++) {
            due.is("cut(" + n + ", 1)", x.cut(n, 1), -3);
            due.is("cut(" + n + ", the last)", x.cut(n, Long.MAX_VALUE), -3);
        }
        x.node(1, 0);
        due.is("run()", x.run(), 1);
        for (int n = 1; n <= Edges.ENDED; n++) {
            due.is("finished(" + n + ")", x.finished(n), 1);
        }
    }

    /** "the first that fits": -2 before -3, whatever way the node ended. */
    private static void theFirstRefusalThatFits(Due due) {
        CarThreads x = Edges.eachEnded();
        for (int n = 1; n <= Edges.ENDED; n++) {
            due.is("ended, done: cut(" + n + ", 0)", x.cut(n, 0), -2);
            due.is("ended, before 0: cut(" + n + ", -1)", x.cut(n, -1), -2);
            due.is("ended, the least: cut(" + n + ", ..)", x.cut(n, Long.MIN_VALUE), -2);
        }
        due.is("unknown, done", x.cut(6, 0), -1);
    }

    /** "instead of one told before". */
    private static void insteadOfOneToldBefore(Due due) {
        CarThreads x = Edges.nodes(4, 3);
        long[][] told = {{0, 2}, {2, 0}, {1, Long.MAX_VALUE}, {Long.MAX_VALUE, 1}};
        for (int n = 1; n <= 4; n++) {
            for (long micro : told[n - 1]) {
                due.is("cut(" + n + ", " + micro + ")", x.cut(n, micro), 1);
            }
        }
        due.is("run()", x.run(), 3);
        due.logIs("the one told last", x, 1001, 3001, 4001, 1002, 3002, 3003);
    }

    private static void aRefusalLeavesTheOneToldBefore(Due due) {
        CarThreads x = Edges.twoWaitBefore(2, 4);
        x.node(1, 0);
        x.run();
        x.cut(1, 4);
        x.waits(1, 2, 3);
        for (long micro : new long[] {-1, 0, 1, Long.MIN_VALUE}) {
            due.is("cut(1, " + micro + ")", x.cut(1, micro), -2);
        }
        due.is("run()", x.run(), 4);
        due.logIs("1 is cut in 4", x, 1001, 2001, 3001, 1002, 1003, 2002, 2003, 2004);
    }

    /** The microsecond of its first step, of its last one, and the one behind that. */
    private static void cutAtItsFirstAndItsLastStep(Due due) {
        CarThreads x = Edges.nodes(4, 3);
        x.cut(1, 0);
        x.cut(2, 2);
        x.cut(3, 3);
        due.is("run()", x.run(), 3);
        due.logIs("cut before its step", x, 2001, 3001, 4001, 2002, 3002, 4002, 3003, 4003);
        for (int n = 1; n <= 4; n++) {
            due.is("finished(" + n + ")", x.finished(n), 1);
        }
    }

    private static void cutInALaterRun(Due due) {
        CarThreads x = Edges.twoWaitBefore(3, 5);
        due.is("cut(1, 3)", x.cut(1, 3), 1);
        due.is("2 does not happen", x.run(), 0);
        x.node(2, 0);
        due.is("3 comes in the next run: 2 goes then", x.run(), 4);
        due.logIs("later", x, 1001, 2001, 1002, 2002, 3001, 2003, 3002, 2004, 2005);
    }

    private static void toldForLaterThanItsEnd(Due due) {
        CarThreads x = Edges.nodes(2, 3);
        x.cut(1, 4);
        x.interrupt(1);
        due.is("run() of 0 to 2", x.run(), 3);
        x.node(3, 0);
        due.is("run() of 3 to 5", x.run(), 3);
        due.is("finished(1)", x.finished(1), 1);
        due.is("safe(1)", x.safe(1), 0);
    }
}
