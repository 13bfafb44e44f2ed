/** Promise 2, at its edges: STEPS 1 .. 200, failsAt 0 .. STEPS, at most 30 nodes. */
public final class Edge02NodeTest {
    private static final int[] TAKEN_STEPS = {1, 2, 199, 200};

    public static void main(String[] args) {
        Due due = new Due();
        stepsAreTakenUpToBothEnds(due);
        stepsOutsideAreRefused(due);
        failsAtIsTakenUpToBothEnds(due);
        failsAtOutsideIsRefused(due);
        thirtyAreTakenAndNoMore(due);
        endedOnesKeepTheirRoom(due);
        outsideIsAnsweredBeforeNoRoom(due);
        aRefusedNodeIsNotThere(due);
        due.end();
    }

    /** "so many STEPS (1 .. 200)": as many are done. */
    private static void stepsAreTakenUpToBothEnds(Due due) {
        for (int steps : TAKEN_STEPS) {
            CarThreads x = new CarThreads();
            due.is("node(" + steps + ", 0)", x.node(steps, 0), 1);
            due.is("run() of " + steps, x.run(), steps);
            due.is("the last of " + steps, x.log(steps - 1), 1000 + steps);
            due.is("none behind " + steps, x.log(steps), -1);
            due.is("ended behind " + steps, x.finished(1), 1);
        }
    }

    /** "-2 the STEPS are none", and "STEPS (1 .. 200)". */
    private static void stepsOutsideAreRefused(Due due) {
        CarThreads x = new CarThreads();
        for (int steps : Edges.outside(1, 200)) {
            for (int failsAt : new int[] {0, 1, steps, Integer.MIN_VALUE, Integer.MAX_VALUE}) {
                due.is("node(" + steps + ", " + failsAt + ")", x.node(steps, failsAt), -2);
            }
        }
        due.is("none was made", x.node(1, 0), 1);
    }

    /** "of which failsAt FAILS (0: none)". */
    private static void failsAtIsTakenUpToBothEnds(Due due) {
        for (int steps : TAKEN_STEPS) {
            for (int failsAt : new int[] {0, 1, steps - 1, steps}) {
                String call = "node(" + steps + ", " + failsAt + ")";
                CarThreads x = new CarThreads();
                due.is(call, x.node(steps, failsAt), 1);
                due.is(call + ": run()", x.run(), failsAt == 0 ? steps : failsAt);
                due.is(call + ": safe(1)", x.safe(1), failsAt == 0 ? 0 : 1);
                int done = failsAt == 0 ? steps : failsAt - 1;
                due.is(call + ": last entry", x.log(done - 1), done == 0 ? -1 : 1000 + done);
                due.is(call + ": no more", x.log(done), -1);
            }
        }
    }

    /** "-2 .. failsAt is not 0 .. STEPS". */
    private static void failsAtOutsideIsRefused(Due due) {
        CarThreads x = new CarThreads();
        for (int steps : TAKEN_STEPS) {
            for (int failsAt : Edges.outside(0, steps)) {
                due.is("node(" + steps + ", " + failsAt + ")", x.node(steps, failsAt), -2);
            }
        }
        due.is("none was made", x.node(200, 200), 1);
    }

    /** "its number"; "-4 there are 30". */
    private static void thirtyAreTakenAndNoMore(Due due) {
        CarThreads x = new CarThreads();
        for (int n = 1; n <= 30; n++) {
            due.is("node " + n, x.node(1, 0), n);
        }
        for (int steps : TAKEN_STEPS) {
            due.is("a 31st of " + steps, x.node(steps, 0), -4);
            due.is("a 31st of " + steps + " that fails", x.node(steps, steps), -4);
        }
        due.is("there is 30", x.safe(30), 0);
        due.is("there is no 31", x.safe(31), -1);
        due.is("run()", x.run(), 1);
        due.is("the last entry", x.log(29), 30001);
        due.is("no entry of a 31st", x.log(30), -1);
    }

    private static void endedOnesKeepTheirRoom(Due due) {
        CarThreads ran = Edges.nodes(30, 1);
        ran.run();
        due.is("behind their steps", ran.node(1, 0), -4);
        CarThreads closed = Edges.nodes(30, 1);
        due.is("close()", closed.close(), 30);
        due.is("behind close", closed.node(1, 0), -4);
    }

    /** "the first that fits": -2 before -4. */
    private static void outsideIsAnsweredBeforeNoRoom(Due due) {
        CarThreads x = Edges.nodes(30, 1);
        for (int steps : Edges.outside(1, 200)) {
            due.is("full: node(" + steps + ", 0)", x.node(steps, 0), -2);
        }
        for (int failsAt : Edges.outside(0, 200)) {
            due.is("full: node(200, " + failsAt + ")", x.node(200, failsAt), -2);
        }
        due.is("full: node(1, 2)", x.node(1, 2), -2);
        due.is("full: node(1, 1)", x.node(1, 1), -4);
    }

    /** "REFUSALS change nothing": no number is used up, and nobody is there to step or end. */
    private static void aRefusedNodeIsNotThere(Due due) {
        CarThreads x = new CarThreads();
        for (int n = 1; n <= 30; n++) {
            due.is("no steps", x.node(0, 0), -2);
            due.is("too many", x.node(201, 0), -2);
            due.is("fails behind its last", x.node(5, 6), -2);
            due.is("fails before 0", x.node(5, -1), -2);
            due.is("not there", x.finished(n), -1);
            due.is("the next number", x.node(1, 0), n);
        }
        due.is("no room", x.node(1, 0), -4);
        due.is("not there", x.finished(31), -1);
        due.is("close()", x.close(), 30);
    }
}
