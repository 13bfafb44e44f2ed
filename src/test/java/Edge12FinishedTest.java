/** Promise 12, at its edges: "its LAST PART is done (once)", however a node ends. */
public final class Edge12FinishedTest {
    public static void main(String[] args) {
        Due due = new Due();
        noSuchNode(due);
        noneBeforeItEnds(due);
        onceHoweverItEnds(due);
        onceIfManyReasonsMeet(due);
        onceIfItIsCutThoughItWasToEndOtherwise(due);
        onceIfItIsClosedThoughItWasToEndOtherwise(due);
        due.end();
    }

    /** "-1 there is none." */
    private static void noSuchNode(Due due) {
        for (int count : new int[] {1, 2, 29, 30}) {
            CarThreads x = Edges.nodes(count, 1);
            for (int n : Edges.outside(1, count)) {
                due.is(count + " nodes: finished(" + n + ")", x.finished(n), -1);
            }
            due.is("the first", x.finished(1), 0);
            due.is("the last", x.finished(count), 0);
        }
    }

    private static void noneBeforeItEnds(Due due) {
        CarThreads x = Edges.twoWaitBefore(2, 2);
        x.cut(1, 9);
        x.interrupt(2);
        due.is("both wait", x.run(), 0);
        due.is("to be cut", x.finished(1), 0);
        due.is("interrupted", x.finished(2), 0);
    }

    private static void allOnce(Due due, String when, CarThreads x, int nodes) {
        for (int n = 1; n <= nodes; n++) {
            due.is(when + ": finished(" + n + ")", x.finished(n), 1);
        }
    }

    private static void onceHoweverItEnds(Due due) {
        CarThreads x = Edges.eachEnded();
        allOnce(due, "ended", x, Edges.ENDED);
        for (int n = 1; n <= Edges.ENDED; n++) {
            x.cut(n, 1);
            x.interrupt(n);
            x.turn(n);
        }
        due.is("run()", x.run(), 0);
        due.is("close()", x.close(), 0);
        allOnce(due, "behind that", x, Edges.ENDED);
        x.node(2, 0);
        due.is("others run", x.run(), 2);
        due.is("others close", x.close(), 0);
        allOnce(due, "behind others", x, Edges.ENDED + 1);
    }

    /** The last step of one that is interrupted and has turns; a failing one that is interrupted. */
    private static void onceIfManyReasonsMeet(Due due) {
        CarThreads x = new CarThreads();
        x.node(1, 0);
        x.node(1, 1);
        x.node(2, 0);
        for (int n = 1; n <= 2; n++) {
            x.interrupt(n);
            x.cut(n, 1);
            x.turn(n);
            x.turn(n);
        }
        due.is("run()", x.run(), 2);
        due.is("close()", x.close(), 0);
        allOnce(due, "many reasons", x, 3);
    }

    private static void onceIfItIsCutThoughItWasToEndOtherwise(Due due) {
        CarThreads x = new CarThreads();
        x.node(1, 0);
        x.node(1, 1);
        x.node(3, 0);
        x.interrupt(3);
        for (int n = 1; n <= 3; n++) {
            x.cut(n, 0);
        }
        due.is("run()", x.run(), 0);
        due.is("run() again", x.run(), 0);
        due.is("close()", x.close(), 0);
        allOnce(due, "cut", x, 3);
        due.is("2 did not fail", x.safe(2), 0);
        due.logIs("none stepped", x);
    }

    private static void onceIfItIsClosedThoughItWasToEndOtherwise(Due due) {
        CarThreads x = Edges.nodes(3, 1);
        x.cut(1, 0);
        x.interrupt(2);
        x.turn(3);
        due.is("close()", x.close(), 3);
        due.is("close() again", x.close(), 0);
        due.is("run()", x.run(), 0);
        allOnce(due, "closed", x, 3);
    }
}
