public final class Promise12FinishedTest {
    public static void main(String[] args) {
        Due due = new Due();
        CarThreads x = new CarThreads();
        x.node(2, 0);
        x.node(2, 1);
        x.node(2, 0);
        x.node(2, 0);
        x.node(2, 0);
        x.node(2, 0);
        x.interrupt(3);
        x.cut(4, 1);
        x.waits(5, 2, 6);
        x.waits(6, 2, 5);
        for (int n = 1; n <= 6; n++) {
            due.is("before: " + n, x.finished(n), 0);
        }
        due.is("run", x.run(), 2);
        for (int n = 1; n <= 6; n++) {
            due.is("after: " + n, x.finished(n), n <= 4 ? 1 : 0);
        }
        due.is("close", x.close(), 2);
        x.cut(1, 2);
        x.interrupt(1);
        x.run();
        x.close();
        for (int n = 1; n <= 6; n++) {
            due.is("once: " + n, x.finished(n), 1);
        }
        for (int n : new int[] {0, -1, 7, 31, Integer.MAX_VALUE, Integer.MIN_VALUE}) {
            due.is("unknown " + n, x.finished(n), -1);
        }
        interruptedAtItsLastStep(due);
        due.end();
    }

    /** Two reasons to end in one step, with a cut behind it: still one last part. */
    private static void interruptedAtItsLastStep(Due due) {
        CarThreads x = new CarThreads();
        x.node(1, 0);
        x.node(3, 0);
        x.interrupt(1);
        x.cut(1, 1);
        due.is("run", x.run(), 3);
        due.is("once", x.finished(1), 1);
    }
}
