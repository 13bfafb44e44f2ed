public final class Promise07SafeTest {
    public static void main(String[] args) {
        Due due = new Due();
        CarThreads x = new CarThreads();
        x.node(3, 2);
        x.node(3, 0);
        x.node(3, 3);
        x.node(3, 3);
        x.node(3, 1);
        x.node(3, 3);
        x.held(1, 7);
        x.interrupt(4);
        x.interrupt(5);
        x.cut(6, 2);
        for (int n = 1; n <= 6; n++) {
            due.is("before the run: " + n, x.safe(n), 0);
        }
        due.is("run", x.run(), 3);
        due.is("failed at 2", x.safe(1), 1);
        due.is("did all", x.safe(2), 0);
        due.is("failed at the last", x.safe(3), 1);
        due.is("ended before it could fail", x.safe(4), 0);
        due.is("interrupted, and failed at the next step", x.safe(5), 1);
        due.is("cut before it could fail", x.safe(6), 0);
        for (int n = 1; n <= 6; n++) {
            due.is("one last part: " + n, x.finished(n), 1);
        }
        due.is("what it held is free", x.held(1, 0), 0);
        for (int n : new int[] {0, -1, 7, 31, Integer.MAX_VALUE, Integer.MIN_VALUE}) {
            due.is("unknown " + n, x.safe(n), -1);
        }
        due.logIs("the step that fails is not done", x,
            1001, 2001, 3001, 4001, 6001, 2002, 3002, 6002, 2003);
        x.node(3, 1);
        x.close();
        due.is("closed", x.safe(7), 0);
        due.end();
    }
}
