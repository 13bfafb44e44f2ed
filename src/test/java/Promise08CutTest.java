public final class Promise08CutTest {
    public static void main(String[] args) {
        Due due = new Due();
        refusalsInTheirOrder(due);
        cutInItsMicrosecond(due);
        insteadOfOneToldBefore(due);
        whatWaitedForItGoesOnInTheSameMicrosecond(due);
        farAway(due);
        cutBehindItsEndDoesNothing(due);
        due.end();
    }

    private static void refusalsInTheirOrder(Due due) {
        CarThreads x = new CarThreads();
        x.node(2, 0);
        x.node(5, 0);
        due.is("before microsecond 0", x.cut(1, -1), -2);
        due.is("far before", x.cut(1, Long.MIN_VALUE), -2);
        due.is("unknown and before", x.cut(3, -1), -1);
        due.is("run", x.run(), 5);
        due.is("unknown", x.cut(0, 9), -1);
        due.is("unknown, done", x.cut(3, 0), -1);
        due.is("done, ended", x.cut(1, 4), -2);
        due.is("ended", x.cut(1, 5), -3);
        x.node(2, 0);
        due.is("done", x.cut(3, 4), -2);
        due.is("the next", x.cut(3, 5), 1);
    }

    private static void cutInItsMicrosecond(Due due) {
        CarThreads x = new CarThreads();
        x.node(4, 0);
        x.node(4, 0);
        x.node(4, 0);
        x.held(2, 3);
        due.is("cut in 0", x.cut(1, 0), 1);
        due.is("cut in 2", x.cut(2, 2), 1);
        due.is("cut does not end at once", x.held(2, 0), 1);
        due.is("run", x.run(), 4);
        due.logIs("cut", x, 2001, 3001, 2002, 3002, 3003, 3004);
        due.is("held by 2", x.held(2, 0), 0);
        for (int n = 1; n <= 3; n++) {
            due.is("finished " + n, x.finished(n), 1);
            due.is("safe " + n, x.safe(n), 0);
        }
    }

    private static void insteadOfOneToldBefore(Due due) {
        CarThreads x = new CarThreads();
        x.node(4, 0);
        x.node(4, 0);
        x.cut(1, 1);
        due.is("later", x.cut(1, 3), 1);
        x.cut(2, 3);
        due.is("sooner", x.cut(2, 1), 1);
        due.is("a refusal leaves it", x.cut(2, -5), -2);
        due.is("run", x.run(), 3);
        due.logIs("instead", x, 1001, 2001, 1002, 1003);
    }

    private static void whatWaitedForItGoesOnInTheSameMicrosecond(Due due) {
        CarThreads x = new CarThreads();
        x.node(2, 0);
        x.node(2, 0);
        x.waits(1, 1, 2);
        x.waits(2, 1, 1);
        due.is("both wait", x.run(), 0);
        due.is("cut", x.cut(2, 0), 1);
        due.is("run", x.run(), 2);
        due.logIs("on", x, 1001, 1002);
    }

    private static void farAway(Due due) {
        CarThreads x = new CarThreads();
        x.node(2, 0);
        x.node(2, 0);
        due.is("the last long", x.cut(1, Long.MAX_VALUE), 1);
        due.is("2^32 is not 0", x.cut(2, 1L << 32), 1);
        due.is("run", x.run(), 2);
        due.logIs("far", x, 1001, 2001, 1002, 2002);
    }

    private static void cutBehindItsEndDoesNothing(Due due) {
        CarThreads x = new CarThreads();
        x.node(2, 0);
        x.node(6, 0);
        x.cut(1, 4);
        due.is("run", x.run(), 6);
        due.is("finished once", x.finished(1), 1);
    }
}
