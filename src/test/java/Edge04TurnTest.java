/**
 * Promise 4, at its edges. Who is READY is settled before anyone steps, and the log goes by nodes:
 * so a turn that is taken, lost or passed over must leave every answer as it is without turns.
 */
public final class Edge04TurnTest {
    public static void main(String[] args) {
        Due due = new Due();
        fiveHundredAndMore(due);
        ofUnknownNodes(due);
        toldBeforeTheNodeIsThere(due);
        moreOfOneThanItHasSteps(due);
        ofOneThatWaits(due);
        ofOneThatWaitsAtTheBarrier(due);
        ofOneThatHasEnded(due);
        ofOneThatIsCutThen(due);
        ofOneThatFails(due);
        inTheFirstMicrosecondOnly(due);
        goneBehindTheRun(due);
        due.end();
    }

    /** "the first 500 of one; others .. are lost". */
    private static void fiveHundredAndMore(Due due) {
        for (int count : new int[] {0, 1, 499, 500, 501, 502}) {
            CarThreads x = Edges.nodes(2, 2);
            for (int t = 1; t <= count; t++) {
                x.turn(t < 500 ? 2 : 1);
            }
            due.is(count + " turns: run()", x.run(), 2);
            due.logIs(count + " turns", x, 1001, 2001, 1002, 2002);
        }
    }

    /** "those of unknown nodes, are lost". */
    private static void ofUnknownNodes(Due due) {
        CarThreads x = Edges.nodes(2, 2);
        for (int n : Edges.outside(1, 2)) {
            x.turn(n);
            due.is("turn(" + n + ") makes no node", x.safe(n), -1);
        }
        due.is("run()", x.run(), 2);
        due.logIs("unknown", x, 1001, 2001, 1002, 2002);
        due.is("the next number", x.node(1, 0), 3);
    }

    private static void toldBeforeTheNodeIsThere(Due due) {
        CarThreads x = Edges.nodes(1, 2);
        x.turn(2);
        x.node(2, 0);
        due.is("run()", x.run(), 2);
        due.logIs("too early", x, 1001, 2001, 1002, 2002);
    }

    /** "a TURN of a node that .. did its STEP in it, is passed over". */
    private static void moreOfOneThanItHasSteps(Due due) {
        CarThreads x = new CarThreads();
        x.node(3, 0);
        x.node(1, 0);
        for (int t = 0; t < 5; t++) {
            x.turn(2);
            x.turn(1);
        }
        due.is("run()", x.run(), 3);
        due.logIs("one step each", x, 1001, 2001, 1002, 1003);
        due.is("one last part", x.finished(2), 1);
    }

    /** "a TURN of a node that is not READY .. is passed over". */
    private static void ofOneThatWaits(Due due) {
        CarThreads x = Edges.nodes(2, 2);
        x.waits(2, 1, 1);
        x.turn(2);
        x.turn(1);
        x.turn(2);
        due.is("run()", x.run(), 3);
        due.logIs("2 waits", x, 1001, 1002, 2001, 2002);
    }

    private static void ofOneThatWaitsAtTheBarrier(Due due) {
        CarThreads x = Edges.twoWaitBefore(2, 2);
        x.node(1, 0);
        x.run();
        x.waits(1, 2, 3);
        x.node(2, 0);
        x.barrier(1);
        x.turn(1);
        x.turn(4);
        x.turn(1);
        due.is("run()", x.run(), 3);
        due.logIs("1 waits for 4 at the barrier", x, 1001, 2001, 3001, 4001, 1002, 4002, 2002);
    }

    private static void ofOneThatHasEnded(Due due) {
        CarThreads x = Edges.eachEnded();
        x.node(1, 0);
        for (int n = 1; n <= Edges.ENDED; n++) {
            x.turn(n);
        }
        due.is("run()", x.run(), 1);
        due.logIs("only 6 steps", x, 1001, 4001, 6001);
        for (int n = 1; n <= Edges.ENDED; n++) {
            due.is("finished(" + n + ")", x.finished(n), 1);
        }
    }

    private static void ofOneThatIsCutThen(Due due) {
        CarThreads x = Edges.nodes(2, 1);
        x.cut(2, 0);
        x.turn(2);
        due.is("run()", x.run(), 1);
        due.logIs("2 is cut before its turn", x, 1001);
        due.is("one last part", x.finished(2), 1);
    }

    private static void ofOneThatFails(Due due) {
        CarThreads x = new CarThreads();
        x.node(1, 0);
        x.node(2, 1);
        x.waits(1, 1, 2);
        x.turn(2);
        x.turn(1);
        x.turn(2);
        due.is("1 waited by what was so far", x.run(), 2);
        due.logIs("2 failed", x, 1001);
        due.is("one last part", x.finished(2), 1);
    }

    /** "in the first microsecond of a run at first as TURNS were told .. all are gone then". */
    private static void inTheFirstMicrosecondOnly(Due due) {
        CarThreads x = Edges.nodes(3, 3);
        for (int t = 0; t < 3; t++) {
            x.turn(3);
            x.turn(2);
        }
        due.is("run()", x.run(), 3);
        due.logIs("by numbers", x, 1001, 2001, 3001, 1002, 2002, 3002, 1003, 2003, 3003);
    }

    private static void goneBehindTheRun(Due due) {
        CarThreads x = Edges.twoWaitBefore(1, 1);
        x.turn(2);
        due.is("a run of none", x.run(), 0);
        x.cut(1, 0);
        x.node(1, 0);
        x.turn(3);
        due.is("the next run", x.run(), 1);
        x.node(1, 0);
        due.is("and the next", x.run(), 1);
        due.logIs("gone", x, 2001, 3001, 4001);
    }
}
