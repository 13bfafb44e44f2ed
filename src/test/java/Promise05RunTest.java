public final class Promise05RunTest {
    public static void main(String[] args) {
        Due due = new Due();
        untilNoneIsReady(due);
        readyByWhatAllHaveDoneSoFar(due);
        aMicrosecondOfFailuresCounts(due);
        aThousandAtMost(due);
        cutsBehindTheThousandWaitForTheNextRun(due);
        cutsCountInAMicrosecondThatDoesNotHappen(due);
        due.end();
    }

    private static void untilNoneIsReady(Due due) {
        CarThreads x = new CarThreads();
        due.is("no nodes", x.run(), 0);
        x.node(1, 0);
        due.is("one step", x.run(), 1);
        due.is("again", x.run(), 0);
        x.node(200, 0);
        x.node(7, 0);
        due.is("the longest", x.run(), 200);
        due.is("all ended", x.close(), 0);
    }

    /** In one microsecond a lower number's step must not let a higher one go, nor its end. */
    private static void readyByWhatAllHaveDoneSoFar(Due due) {
        CarThreads x = new CarThreads();
        x.node(2, 0);
        x.node(1, 0);
        x.node(1, 1);
        x.node(1, 0);
        x.waits(2, 1, 1);
        x.waits(4, 1, 3);
        due.is("run", x.run(), 2);
        due.logIs("so far", x, 1001, 1002, 2001, 4001);
    }

    private static void aMicrosecondOfFailuresCounts(Due due) {
        CarThreads x = new CarThreads();
        x.node(3, 1);
        due.is("run", x.run(), 1);
        due.is("microsecond 0 was done", x.cut(1, 0), -2);
        due.is("microsecond 1 was not", x.cut(1, 1), -3);
        due.logIs("failed", x);
    }

    /**
     * Node 1 goes for 200 microseconds; of the pairs 2 and 3, 4 and 5, .. that wait for each other,
     * the first is cut as the node before them ends, so that the second goes for 200 more.
     */
    private static CarThreads twelveHundredMicroseconds() {
        CarThreads x = new CarThreads();
        x.node(200, 0);
        for (int n = 2; n <= 10; n += 2) {
            x.node(200, 0);
            x.node(200, 0);
            x.waits(n, 1, n + 1);
            x.waits(n + 1, 1, n);
            x.cut(n, 100L * n);
        }
        return x;
    }

    private static void aThousandAtMost(Due due) {
        CarThreads x = twelveHundredMicroseconds();
        due.is("first run", x.run(), 1000);
        due.is("microsecond 999 was done", x.cut(11, 999), -2);
        due.is("second run", x.run(), 200);
        due.is("third run", x.run(), 0);
        due.is("log(999)", x.log(999), 9200);
        due.is("log(1000)", x.log(1000), 11001);
        due.is("log(1199)", x.log(1199), 11200);
        due.is("log(1200)", x.log(1200), -1);
    }

    private static void cutsBehindTheThousandWaitForTheNextRun(Due due) {
        CarThreads x = twelveHundredMicroseconds();
        due.is("first run", x.run(), 1000);
        due.is("10 is not cut yet", x.finished(10), 0);
        due.is("it may still be cut elsewhere", x.cut(10, 1000), 1);
        x.cut(11, 1000);
        due.is("second run", x.run(), 0);
        due.is("10 is cut", x.finished(10), 1);
        due.is("11 is cut", x.finished(11), 1);
    }

    private static void cutsCountInAMicrosecondThatDoesNotHappen(Due due) {
        CarThreads x = new CarThreads();
        x.node(3, 0);
        x.cut(1, 0);
        due.is("run", x.run(), 0);
        due.is("cut", x.finished(1), 1);
        x.node(3, 0);
        due.is("microsecond 0 is yet to be done", x.cut(2, 0), 1);
    }
}
