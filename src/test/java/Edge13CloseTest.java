/** Promise 13, at its edges: "All nodes that are ALIVE END .. how many". */
public final class Edge13CloseTest {
    public static void main(String[] args) {
        Due due = new Due();
        none(due);
        oneAndThirty(due);
        onlyThoseThatAreAlive(due);
        theyDoNothingMore(due);
        microsecondsAreLeftAsTheyAre(due);
        othersMayComeBehindIt(due);
        due.end();
    }

    private static void none(Due due) {
        CarThreads x = new CarThreads();
        due.is("no nodes", x.close(), 0);
        due.is("again", x.close(), 0);
        CarThreads y = Edges.eachEnded();
        due.is("all have ended", y.close(), 0);
        for (int n = 1; n <= Edges.ENDED; n++) {
            due.is("finished(" + n + ")", y.finished(n), 1);
        }
    }

    private static void oneAndThirty(Due due) {
        for (int count : new int[] {1, 2, 29, 30}) {
            CarThreads x = Edges.nodes(count, 200);
            due.is("close() of " + count, x.close(), count);
            due.is("close() again of " + count, x.close(), 0);
            for (int n = 1; n <= count; n++) {
                due.is("finished(" + n + ") of " + count, x.finished(n), 1);
            }
        }
    }

    private static void onlyThoseThatAreAlive(Due due) {
        CarThreads x = Edges.eachEnded();
        x.node(3, 0);
        x.node(3, 0);
        x.waits(6, 2, 7);
        x.waits(7, 2, 6);
        due.is("run()", x.run(), 1);
        due.is("two wait", x.close(), 2);
        for (int n = 1; n <= 7; n++) {
            due.is("finished(" + n + ")", x.finished(n), 1);
            due.is("safe(" + n + ")", x.safe(n), n == 2 ? 1 : 0);
        }
    }

    /** Whatever was told of them: to step, to fail, to be cut, to wait, to have turns. */
    private static void theyDoNothingMore(Due due) {
        CarThreads x = new CarThreads();
        x.node(2, 0);
        x.node(2, 1);
        x.node(2, 0);
        x.node(2, 0);
        x.cut(3, 1);
        x.interrupt(4);
        x.turn(1);
        for (int thing = 1; thing <= 16; thing++) {
            x.held(thing % 4 + 1, thing);
        }
        due.is("close()", x.close(), 4);
        due.is("run()", x.run(), 0);
        due.logIs("nothing was done", x);
        for (int n = 1; n <= 4; n++) {
            due.is("safe(" + n + ")", x.safe(n), 0);
            due.is("held(" + n + ", 0)", x.held(n, 0), 0);
            due.is("held(" + n + ", 1)", x.held(n, 1), -3);
            due.is("interrupt(" + n + ")", x.interrupt(n), false);
            due.is("cut(" + n + ", 0)", x.cut(n, 0), -3);
            due.is("waits(" + n + ", 1, ..)", x.waits(n, 1, n % 4 + 1), false);
            due.is("finished(" + n + ")", x.finished(n), 1);
        }
    }

    private static void microsecondsAreLeftAsTheyAre(Due due) {
        CarThreads x = Edges.twoWaitBefore(3, 3);
        x.barrier(5);
        due.is("close()", x.close(), 2);
        due.logIs("the log stays", x, 1001, 2001, 1002, 2002);
        x.node(1, 0);
        due.is("1 has been done", x.cut(3, 1), -2);
        due.is("2 has not", x.cut(3, 2), 1);
        due.is("the barrier stays", x.barrier(0), 5);
    }

    private static void othersMayComeBehindIt(Due due) {
        CarThreads x = Edges.nodes(29, 1);
        x.held(1, 1);
        due.is("close()", x.close(), 29);
        due.is("a 30th", x.node(2, 0), 30);
        due.is("waits for an ended one", x.waits(30, 1, 1), true);
        due.is("holds", x.held(30, 1), 1);
        due.is("run()", x.run(), 2);
        due.logIs("the 30th", x, 30001, 30002);
        due.is("close() again", x.close(), 0);
    }
}
