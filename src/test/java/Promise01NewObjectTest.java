public final class Promise01NewObjectTest {
    public static void main(String[] args) {
        Due due = new Due();
        CarThreads x = new CarThreads();
        for (int node : new int[] {Integer.MIN_VALUE, -1, 0, 1, 2, 30, 31, Integer.MAX_VALUE}) {
            due.is("safe " + node, x.safe(node), -1);
            due.is("finished " + node, x.finished(node), -1);
            due.is("held " + node, x.held(node, 0), -1);
            due.is("cut " + node, x.cut(node, 0), -1);
            due.is("interrupt " + node, x.interrupt(node), false);
            due.is("waits " + node, x.waits(node, 1, 2), false);
        }
        due.logIs("new", x);
        due.is("close", x.close(), 0);
        due.is("run", x.run(), 0);
        due.is("barrier at first", x.barrier(0), 0);
        due.is("first node", x.node(1, 0), 1);
        oneObjectKnowsNothingOfAnother(due);
        due.end();
    }

    private static void oneObjectKnowsNothingOfAnother(Due due) {
        CarThreads used = new CarThreads();
        used.node(3, 0);
        used.held(1, 4);
        used.barrier(9);
        used.run();
        CarThreads fresh = new CarThreads();
        due.is("fresh safe", fresh.safe(1), -1);
        due.is("fresh barrier", fresh.barrier(0), 0);
        due.is("fresh node", fresh.node(2, 0), 1);
        due.is("fresh held", fresh.held(1, 4), 1);
        due.is("fresh cut in microsecond 0", fresh.cut(1, 0), 1);
        due.logIs("fresh", fresh);
    }
}
