public final class Promise06LogTest {
    public static void main(String[] args) {
        Due due = new Due();
        byMicrosecondsThenByNodes(due);
        outsideTheLog(due);
        theFirstTwoThousand(due);
        due.end();
    }

    private static void byMicrosecondsThenByNodes(Due due) {
        CarThreads x = new CarThreads();
        x.node(3, 0);
        x.node(1, 0);
        x.node(2, 2);
        x.turn(3);
        x.run();
        due.logIs("first run", x, 1001, 2001, 3001, 1002, 1003);
        x.node(2, 0);
        due.logIs("before the second run", x, 1001, 2001, 3001, 1002, 1003);
        x.run();
        due.logIs("second run", x, 1001, 2001, 3001, 1002, 1003, 4001, 4002);
        x.close();
        due.is("asking changes nothing", x.log(0), 1001);
    }

    private static void outsideTheLog(Due due) {
        CarThreads x = new CarThreads();
        x.node(2, 0);
        x.run();
        for (int i : new int[] {-1, 2, 3, 1999, 2000, 2001, Integer.MAX_VALUE, Integer.MIN_VALUE}) {
            due.is("log(" + i + ")", x.log(i), -1);
        }
    }

    private static void theFirstTwoThousand(Due due) {
        CarThreads x = new CarThreads();
        for (int n = 1; n <= 10; n++) {
            x.node(200, 0);
        }
        due.is("exactly as many", x.run(), 200);
        due.is("log(0)", x.log(0), 1001);
        due.is("log(1998)", x.log(1998), 9200);
        due.is("log(1999)", x.log(1999), 10200);
        due.is("log(2000)", x.log(2000), -1);
        x.node(5, 0);
        due.is("steps beyond the log are done", x.run(), 5);
        due.is("they end", x.finished(11), 1);
        due.is("log(1999) stays", x.log(1999), 10200);
        due.is("log(2000) stays none", x.log(2000), -1);
    }
}
