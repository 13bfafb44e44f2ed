public final class Promise09InterruptTest {
    public static void main(String[] args) {
        Due due = new Due();
        endsBehindItsNextStep(due);
        waitsFirst(due);
        onlyOneThatIsAlive(due);
        due.end();
    }

    private static void endsBehindItsNextStep(Due due) {
        CarThreads x = new CarThreads();
        x.node(4, 0);
        x.node(4, 1);
        x.node(1, 0);
        x.node(4, 2);
        x.held(1, 1);
        for (int n = 1; n <= 4; n++) {
            due.is("interrupt " + n, x.interrupt(n), true);
        }
        due.is("again", x.interrupt(1), true);
        due.is("not at once", x.finished(1), 0);
        due.is("held yet", x.held(1, 0), 1);
        due.is("run", x.run(), 1);
        due.logIs("one step each", x, 1001, 3001, 4001);
        for (int n = 1; n <= 4; n++) {
            due.is("finished " + n, x.finished(n), 1);
            due.is("safe " + n, x.safe(n), n == 2 ? 1 : 0);
        }
        due.is("free", x.held(1, 0), 0);
    }

    private static void waitsFirst(Due due) {
        CarThreads x = new CarThreads();
        x.node(3, 0);
        x.node(3, 0);
        x.node(3, 0);
        x.waits(1, 2, 2);
        x.waits(2, 2, 1);
        due.is("until both wait", x.run(), 3);
        due.is("interrupt", x.interrupt(1), true);
        due.is("it does not go on by that", x.run(), 0);
        due.is("alive", x.interrupt(1), true);
        due.is("told anew", x.waits(1, 2, 3), true);
        due.is("run", x.run(), 3);
        due.logIs("one step of 1", x, 1001, 2001, 3001, 3002, 3003, 1002, 2002, 2003);
    }

    private static void onlyOneThatIsAlive(Due due) {
        CarThreads x = new CarThreads();
        x.node(1, 0);
        x.node(3, 1);
        x.node(3, 0);
        x.cut(3, 0);
        x.run();
        for (int n : new int[] {1, 2, 3, 4, 0, -1, 31, Integer.MAX_VALUE, Integer.MIN_VALUE}) {
            due.is("interrupt " + n, x.interrupt(n), false);
        }
    }
}
