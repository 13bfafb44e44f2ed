/** Promise 9, at its edges, and: "A node that is INTERRUPTED ENDS behind its next STEP". */
public final class Edge09InterruptTest {
    public static void main(String[] args) {
        Due due = new Due();
        noSuchNode(due);
        onlyWhileItIsAlive(due);
        behindItsNextStep(due);
        twiceIsAsOnce(due);
        whileItWaits(due);
        whileItWaitsAtTheBarrier(due);
        atTheStepThatIsItsLast(due);
        itHoldsUntilItEnds(due);
        due.end();
    }

    private static void noSuchNode(Due due) {
        CarThreads x = Edges.nodes(2, 2);
        for (int n : Edges.outside(1, 2)) {
            due.is("interrupt(" + n + ")", x.interrupt(n), false);
        }
        due.is("run()", x.run(), 2);
        due.logIs("nobody was interrupted", x, 1001, 2001, 1002, 2002);
        due.is("told before it is there", x.interrupt(3), false);
        x.node(2, 0);
        due.is("it was not kept", x.run(), 2);
    }

    /** "whether it is ALIVE". */
    private static void onlyWhileItIsAlive(Due due) {
        CarThreads x = Edges.eachEnded();
        for (int n = 1; n <= Edges.ENDED; n++) {
            due.is("interrupt(" + n + ")", x.interrupt(n), false);
            due.is("finished(" + n + ")", x.finished(n), 1);
            due.is("safe(" + n + ")", x.safe(n), n == 2 ? 1 : 0);
        }
        due.is("run()", x.run(), 0);
        CarThreads y = Edges.nodes(30, 1);
        due.is("the first", y.interrupt(1), true);
        due.is("the last", y.interrupt(30), true);
        due.is("no 31st", y.interrupt(31), false);
    }

    private static void behindItsNextStep(Due due) {
        CarThreads x = Edges.nodes(2, 200);
        due.is("interrupt(1)", x.interrupt(1), true);
        due.is("not at once", x.finished(1), 0);
        due.is("run()", x.run(), 200);
        due.is("log(0)", x.log(0), 1001);
        due.is("log(1)", x.log(1), 2001);
        due.is("log(2)", x.log(2), 2002);
        due.is("log(200)", x.log(200), 2200);
        due.is("finished(1)", x.finished(1), 1);
    }

    private static void twiceIsAsOnce(Due due) {
        CarThreads x = Edges.nodes(1, 3);
        due.is("once", x.interrupt(1), true);
        due.is("twice", x.interrupt(1), true);
        due.is("run()", x.run(), 1);
        due.is("one last part", x.finished(1), 1);
        due.is("behind its end", x.interrupt(1), false);
    }

    private static void whileItWaits(Due due) {
        CarThreads x = Edges.twoWaitBefore(2, 3);
        due.is("interrupt(1)", x.interrupt(1), true);
        due.is("it goes on waiting", x.run(), 0);
        due.is("it is ALIVE", x.interrupt(1), true);
        x.node(1, 0);
        x.run();
        x.waits(1, 2, 3);
        due.is("run()", x.run(), 3);
        due.logIs("it did its next step", x, 1001, 2001, 3001, 1002, 2002, 2003);
    }

    /** 1 and 2 have done a step; 4 and 5, who wait for each other, none. */
    private static void whileItWaitsAtTheBarrier(Due due) {
        CarThreads x = Edges.twoWaitBefore(2, 3);
        x.node(1, 0);
        x.run();
        x.waits(1, 2, 3);
        x.node(1, 0);
        x.node(1, 0);
        x.waits(4, 1, 5);
        x.waits(5, 1, 4);
        x.barrier(1);
        due.is("interrupt(1)", x.interrupt(1), true);
        due.is("it goes on waiting", x.run(), 0);
        x.barrier(0);
        due.is("run()", x.run(), 3);
        due.logIs("it did its next step", x, 1001, 2001, 3001, 1002, 2002, 2003);
    }

    private static void atTheStepThatIsItsLast(Due due) {
        CarThreads x = new CarThreads();
        x.node(1, 0);
        x.node(1, 1);
        x.node(2, 2);
        for (int n = 1; n <= 3; n++) {
            x.interrupt(n);
        }
        due.is("run()", x.run(), 1);
        due.logIs("steps", x, 1001, 3001);
        for (int n = 1; n <= 3; n++) {
            due.is("finished(" + n + ")", x.finished(n), 1);
            due.is("safe(" + n + ")", x.safe(n), n == 2 ? 1 : 0);
        }
    }

    private static void itHoldsUntilItEnds(Due due) {
        CarThreads x = Edges.nodes(1, 3);
        x.interrupt(1);
        due.is("an interrupted one may hold", x.held(1, 1), 1);
        due.is("and wait", x.waits(1, 1, 2), false);
        x.node(1, 0);
        due.is("for one that is there", x.waits(1, 1, 2), true);
        due.is("and be cut", x.cut(1, 9), 1);
        due.is("run()", x.run(), 2);
        due.is("free", x.held(1, 0), 0);
        due.logIs("2, then 1", x, 2001, 1001);
    }
}
