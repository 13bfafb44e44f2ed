import java.util.Arrays;

/** Promise 5, at its edges: a run of none, of 1000, and the microsecond that does not happen. */
public final class Edge05RunTest {
    public static void main(String[] args) {
        Due due = new Due();
        noneIsReady(due);
        aThousandAreDoneByARun(due);
        eachRunHasItsOwnThousand(due);
        cutsBehindTheThousandAreLeftToTheNextRun(due);
        cutInTheFirstOfTheNextRun(due);
        microsecondsAreNumberedFrom0OnOverAllRuns(due);
        theMicrosecondThatDoesNotHappenHasNotBeenDone(due);
        nodesThatAreCutInItEndAllTheSame(due);
        cutsComeBeforeTheReadyAreFound(due);
        readyByWhatAllHaveDoneSoFar(due);
        allThatFailMakeAMicrosecond(due);
        due.end();
    }

    /** "until there is one without a READY node": no nodes, all ended, all waiting, all cut. */
    private static void noneIsReady(Due due) {
        due.is("no nodes", new CarThreads().run(), 0);
        due.is("all have ended", Edges.eachEnded().run(), 0);
        due.is("all wait", Edges.twoWaitBefore(1, 1).run(), 0);
        CarThreads x = Edges.nodes(30, 200);
        for (int n = 1; n <= 30; n++) {
            x.cut(n, 0);
        }
        due.is("all are cut", x.run(), 0);
        due.is("again", x.run(), 0);
        due.logIs("nothing was done", x);
    }

    /** "or 1000 were done by it". */
    private static void aThousandAreDoneByARun(Due due) {
        CarThreads less = Edges.inARow(200, 200, 200, 200, 199);
        due.is("999", less.run(), 999);
        due.is("all ended behind 999", less.close(), 0);

        CarThreads asMany = Edges.inARow(200, 200, 200, 200, 200);
        due.is("1000", asMany.run(), 1000);
        due.is("all ended behind 1000", asMany.close(), 0);
        due.is("none more", asMany.run(), 0);

        CarThreads more = Edges.inARow(200, 200, 200, 200, 200, 1);
        due.is("1000 of 1001", more.run(), 1000);
        due.is("the last is yet to be done", more.finished(11), 0);
        due.is("it is not in the log", more.log(1000), -1);
        due.is("1 of 1001", more.run(), 1);
        due.is("log(1000)", more.log(1000), 11001);
        due.is("none more", more.run(), 0);
    }

    private static void eachRunHasItsOwnThousand(Due due) {
        int[] lengths = new int[15];
        Arrays.fill(lengths, 200);
        CarThreads x = Edges.inARow(lengths);
        due.is("first", x.run(), 1000);
        due.is("second", x.run(), 1000);
        due.is("third", x.run(), 1000);
        due.is("fourth", x.run(), 0);
        due.is("log(1999)", x.log(1999), 19200);
        due.is("log(2000)", x.log(2000), -1);
        due.is("the last of 3000", x.finished(29), 1);
    }

    private static void cutsBehindTheThousandAreLeftToTheNextRun(Due due) {
        CarThreads x = Edges.inARow(200, 200, 200, 200, 200);
        for (int n = 10; n <= 12; n++) {
            x.node(1, 0);
        }
        x.waits(10, 1, 12);
        x.waits(11, 1, 12);
        x.waits(12, 1, 11);
        x.cut(10, 999);
        x.cut(11, 1000);
        x.cut(12, 1000);
        due.is("run()", x.run(), 1000);
        due.is("10 was cut in 999", x.finished(10), 1);
        due.is("11 was not in 1000", x.finished(11), 0);
        x.node(1, 0);
        due.is("999 has been done", x.cut(13, 999), -2);
        due.is("1000 has not", x.cut(13, 1000), 1);
        due.is("1000 does not happen", x.run(), 0);
        for (int n = 11; n <= 13; n++) {
            due.is("cut in 1000: " + n, x.finished(n), 1);
        }
    }

    private static void cutInTheFirstOfTheNextRun(Due due) {
        CarThreads x = Edges.inARow(200, 200, 200, 200, 200, 1);
        due.is("first", x.run(), 1000);
        due.is("10 is to be cut in 1000: not yet", x.finished(10), 0);
        due.is("it is ALIVE", x.interrupt(10), true);
        due.is("instead, later", x.cut(10, 1001), 1);
        due.is("10 and 11 still wait for each other", x.run(), 0);
        due.is("10 is not cut", x.finished(10), 0);
        due.is("now in 1000", x.cut(10, 1000), 1);
        due.is("11 goes", x.run(), 1);
    }

    /** "A MICROSECOND, numbered from 0 on". */
    private static void microsecondsAreNumberedFrom0OnOverAllRuns(Due due) {
        CarThreads x = Edges.nodes(1, 2);
        x.run();
        x.node(3, 0);
        x.run();
        x.node(4, 0);
        due.is("4 has been done", x.cut(3, 4), -2);
        due.is("5 has not", x.cut(3, 7), 1);
        due.is("run() of 5 and 6", x.run(), 2);
        due.logIs("cut in 7", x, 1001, 1002, 2001, 2002, 2003, 3001, 3002);
        due.is("cut", x.finished(3), 1);
    }

    /** "if there are none, the microsecond does not happen". */
    private static void theMicrosecondThatDoesNotHappenHasNotBeenDone(Due due) {
        CarThreads x = new CarThreads();
        for (int times = 0; times < 3; times++) {
            due.is("no nodes", x.run(), 0);
        }
        x.node(2, 0);
        due.is("0 has not been done", x.cut(1, 0), 1);
        due.is("instead in 1", x.cut(1, 1), 1);
        due.is("only 0 is done", x.run(), 1);
        x.node(1, 0);
        due.is("0 has been done", x.cut(2, 0), -2);
        due.is("1 has not", x.cut(2, 1), 1);
    }

    private static void nodesThatAreCutInItEndAllTheSame(Due due) {
        CarThreads x = Edges.twoWaitBefore(2, 2);
        x.held(1, 5);
        x.cut(1, 1);
        x.cut(2, 1);
        due.is("nobody is left", x.run(), 0);
        for (int n = 1; n <= 2; n++) {
            due.is("finished(" + n + ")", x.finished(n), 1);
            due.is("held(" + n + ", 0)", x.held(n, 0), 0);
        }
        x.node(1, 0);
        due.is("1 may be told again", x.cut(3, 1), 1);
        due.is("nobody again", x.run(), 0);
        due.is("finished(3)", x.finished(3), 1);
        x.node(1, 0);
        due.is("1 happens at last", x.run(), 1);
        due.is("1 has been done", x.cut(4, 1), -2);
    }

    /** "at first, by numbers, nodes that are to be CUT in it END. Then the READY ones are found". */
    private static void cutsComeBeforeTheReadyAreFound(Due due) {
        CarThreads x = Edges.twoWaitBefore(1, 1);
        x.node(1, 0);
        x.cut(2, 0);
        due.is("1 goes in the microsecond in which 2 is cut", x.run(), 1);
        due.logIs("with 3", x, 1001, 3001);

        CarThreads y = Edges.twoWaitBefore(3, 3);
        y.barrier(2);
        y.node(3, 0);
        y.waits(3, 1, 1);
        y.waits(2, 3, 3);
        y.waits(3, 2, 2);
        y.cut(3, 3);
        due.is("3 goes, is cut, and holds nobody back", y.run(), 3);
        due.logIs("barrier", y, 1001, 2001, 1002, 2002, 3001, 2003, 1003);
    }

    /** "ALIVE ones that do not WAIT by what all have done so far". */
    private static void readyByWhatAllHaveDoneSoFar(Due due) {
        CarThreads x = Edges.nodes(30, 1);
        for (int n = 2; n <= 30; n++) {
            x.waits(n, 1, n - 1);
        }
        due.is("one behind the other, upwards", x.run(), 30);
        due.is("log(29)", x.log(29), 30001);

        CarThreads y = Edges.nodes(30, 1);
        for (int n = 1; n < 30; n++) {
            y.waits(n, 1, n + 1);
        }
        due.is("one behind the other, downwards", y.run(), 30);
        due.is("log(29)", y.log(29), 1001);
    }

    private static void allThatFailMakeAMicrosecond(Due due) {
        CarThreads x = new CarThreads();
        x.node(1, 1);
        x.node(200, 1);
        due.is("run()", x.run(), 1);
        due.logIs("no step was done", x);
        x.node(1, 0);
        due.is("0 has been done", x.cut(3, 0), -2);
    }
}
