public final class Promise13CloseTest {
    public static void main(String[] args) {
        Due due = new Due();
        CarThreads x = new CarThreads();
        due.is("no nodes", x.close(), 0);
        x.node(1, 0);
        x.node(3, 2);
        x.node(3, 0);
        x.node(3, 0);
        x.node(3, 3);
        x.held(4, 9);
        x.waits(3, 2, 4);
        x.waits(4, 2, 3);
        x.waits(5, 2, 4);
        x.cut(4, 5);
        due.is("run", x.run(), 2);
        due.is("three are alive", x.close(), 3);
        due.is("none is", x.close(), 0);
        for (int n = 1; n <= 5; n++) {
            due.is("finished " + n, x.finished(n), 1);
            due.is("safe " + n, x.safe(n), n == 2 ? 1 : 0);
            due.is("interrupt " + n, x.interrupt(n), false);
            due.is("waits " + n, x.waits(n, 3, n % 5 + 1), false);
        }
        due.is("held", x.held(4, 0), 0);
        due.is("run", x.run(), 0);
        due.logIs("closed ones step no more", x, 1001, 2001, 3001, 4001, 5001);
        due.is("a node after that", x.node(2, 0), 6);
        due.is("it may hold", x.held(6, 9), 1);
        due.is("it runs", x.run(), 2);
        due.is("it has ended", x.close(), 0);
        due.end();
    }
}
