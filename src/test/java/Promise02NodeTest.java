public final class Promise02NodeTest {
    private static final int[][] OUTSIDE = {
        {0, 0}, {-1, 0}, {201, 0}, {Integer.MIN_VALUE, 0}, {Integer.MAX_VALUE, 0},
        {5, 6}, {5, -1}, {200, 201}, {1, 2}, {1, Integer.MAX_VALUE}, {1, Integer.MIN_VALUE}, {0, -1},
    };

    public static void main(String[] args) {
        Due due = new Due();
        numbersAndRefusals(due);
        stepsAndFailures(due);
        due.end();
    }

    private static void numbersAndRefusals(Due due) {
        CarThreads x = new CarThreads();
        refusesWhatIsOutside(due, x);
        int[][] fine = {{1, 0}, {1, 1}, {200, 0}, {200, 200}, {5, 5}};
        for (int n = 1; n <= 30; n++) {
            int[] given = fine[n % fine.length];
            due.is("node " + n, x.node(given[0], given[1]), n);
        }
        due.is("a 31st", x.node(5, 0), -4);
        due.is("a 31st again", x.node(200, 200), -4);
        refusesWhatIsOutside(due, x);
        due.is("no node 31", x.safe(31), -1);
        due.is("node 30 is there", x.safe(30), 0);
        due.is("all are alive at first", x.close(), 30);
        due.is("ended ones keep their room", x.node(5, 0), -4);
    }

    private static void refusesWhatIsOutside(Due due, CarThreads x) {
        for (int[] given : OUTSIDE) {
            due.is("node(" + given[0] + ", " + given[1] + ")", x.node(given[0], given[1]), -2);
        }
    }

    private static void stepsAndFailures(Due due) {
        CarThreads x = new CarThreads();
        x.node(2, 0);
        x.node(3, 3);
        x.node(3, 1);
        x.node(1, 0);
        due.is("run", x.run(), 3);
        due.logIs("steps", x, 1001, 2001, 4001, 1002, 2002);
    }
}
