public final class Promise01NewObjectTest {
    public static void main(String[] args) {
        Due due = new Due();
        CarThreads x = new CarThreads();
        for (int node : new int[] {Integer.MIN_VALUE, -1, 0, 1, 2, 30, 31, Integer.MAX_VALUE}) {
            due.is("safe " + node, x.safe(node), -1);
            due.is("finished " + node, x.finished(node), -1);
            due.is("held " + node, x.held(node, 0), -1);
            due.is("cut " + node, x.cut(node, 0), -1);
            due.is("interrupt " + node, x.interrupt(node), false);
            due.is("waits " + node, x.waits(node, 1, 2), false);
        }
        due.logIs("new", x);
        due.is("close", x.close(), 0);
        due.is("run", x.run(), 0);
        due.is("barrier at first", x.barrier(0), 0);
        due.is("first node", x.node(1, 0), 1);
        oneObjectKnowsNothingOfAnother(due);
        twoObjectsInTurns(due);
        due.end();
    }

    private static void oneObjectKnowsNothingOfAnother(Due due) {
        CarThreads used = new CarThreads();
        used.node(3, 0);
        used.held(1, 4);
        used.barrier(9);
        used.run();
        CarThreads fresh = new CarThreads();
        due.is("fresh safe", fresh.safe(1), -1);
        due.is("fresh barrier", fresh.barrier(0), 0);
        due.is("fresh node", fresh.node(2, 0), 1);
        due.is("fresh held", fresh.held(1, 4), 1);
        due.is("fresh cut in microsecond 0", fresh.cut(1, 0), 1);
        due.logIs("fresh", fresh);
    }

    /** What is told to the one, call by call between those of the other, is not told to that one. */
    private static void twoObjectsInTurns(Due due) {
        CarThreads x = new CarThreads();
        CarThreads y = new CarThreads();
        due.is("x: node", x.node(3, 0), 1);
        due.is("y: node", y.node(4, 2), 1);
        due.is("x: node", x.node(2, 0), 2);
        due.is("y: node", y.node(2, 0), 2);
        due.is("x: waits", x.waits(1, 1, 2), true);
        due.is("y: waits", y.waits(2, 1, 1), true);
        due.is("x: held", x.held(1, 1), 1);
        due.is("y: held", y.held(2, 1), 1);
        due.is("x: cut", x.cut(2, 1), 1);
        due.is("y: interrupt", y.interrupt(2), true);
        due.is("x: barrier", x.barrier(1), 0);
        due.is("y: barrier", y.barrier(0), 0);
        x.turn(2);
        y.turn(1);
        due.is("x: run", x.run(), 4);
        due.is("y: run", y.run(), 2);
        due.is("x: safe", x.safe(1), 0);
        due.is("y: safe", y.safe(1), 1);
        due.logIs("x", x, 2001, 1001, 1002, 1003);
        due.logIs("y", y, 1001, 2001);
        x.node(1, 0);
        y.node(1, 0);
        due.is("x: microsecond 2 was done", x.cut(3, 2), -2);
        due.is("y: microsecond 2 was not", y.cut(3, 2), 1);
        due.is("x: close", x.close(), 1);
        due.is("y: alive", y.interrupt(3), true);
        due.is("y: close", y.close(), 1);
        due.is("x: barrier", x.barrier(0), 1);
        due.is("y: barrier", y.barrier(0), 0);
    }
}
