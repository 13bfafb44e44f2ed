/** The Terms' "A STEP", at its edges: the one that FAILS, the last one, and what ends behind it. */
public final class EdgeStepTest {
    public static void main(String[] args) {
        Due due = new Due();
        itFailsAtItsFirstAMiddleAndItsLast(due);
        itFailsOnlyThere(due);
        whoWaitsForOneThatFailsGoesOnBehindItsEnd(due);
        itWaitsAtTheBarrierBeforeItFails(due);
        oneThatHasDoneAllEnds(due);
        oneStepInAMicrosecond(due);
        due.end();
    }

    /** "the node takes its SAFE way and ENDS, the STEP is not done". */
    private static void itFailsAtItsFirstAMiddleAndItsLast(Due due) {
        for (int failsAt : new int[] {1, 2, 100, 199, 200}) {
            String name = "fails at " + failsAt;
            CarThreads x = new CarThreads();
            x.node(200, failsAt);
            x.held(1, 1);
            x.held(1, 16);
            due.is(name + ": run()", x.run(), failsAt);
            due.is(name + ": safe(1)", x.safe(1), 1);
            due.is(name + ": finished(1)", x.finished(1), 1);
            due.is(name + ": held(1, 0)", x.held(1, 0), 0);
            due.is(name + ": interrupt(1)", x.interrupt(1), false);
            due.is(name + ": not noted", x.log(failsAt - 1), -1);
            due.is(name + ": the one before", x.log(failsAt - 2), failsAt == 1 ? -1 : 999 + failsAt);
            due.is(name + ": run() again", x.run(), 0);
        }
    }

    /** "if it is the one that FAILS": a node that ends before it has not failed. */
    private static void itFailsOnlyThere(Due due) {
        CarThreads x = Edges.nodes(1, 3);
        x.node(3, 3);
        x.waits(1, 3, 2);
        x.waits(2, 3, 1);
        due.is("run()", x.run(), 2);
        due.is("before it fails", x.safe(2), 0);
        due.is("it is ALIVE", x.finished(2), 0);
        due.is("close()", x.close(), 2);
        due.is("behind close", x.safe(2), 0);
    }

    /** It has done one step less than it is waited for, but it has ENDED. */
    private static void whoWaitsForOneThatFailsGoesOnBehindItsEnd(Due due) {
        CarThreads x = new CarThreads();
        x.node(3, 2);
        x.node(3, 0);
        x.waits(2, 2, 1);
        due.is("run()", x.run(), 4);
        due.logIs("2 waits in 1, not in 2", x, 1001, 2001, 2002, 2003);
        x.node(1, 0);
        due.is("3 has been done", x.cut(3, 3), -2);
        due.is("4 has not", x.cut(3, 4), 1);
    }

    private static void itWaitsAtTheBarrierBeforeItFails(Due due) {
        CarThreads x = new CarThreads();
        x.node(2, 2);
        x.node(2, 0);
        x.node(1, 0);
        x.node(1, 0);
        x.waits(3, 1, 4);
        x.waits(4, 1, 3);
        x.barrier(1);
        due.is("until 3 and 4 hold them back", x.run(), 1);
        due.is("1 waits, so it did not fail", x.safe(1), 0);
        x.cut(3, 1);
        due.is("4 steps in 1, then 1 and 2 go", x.run(), 2);
        due.is("1 failed", x.safe(1), 1);
        due.logIs("barrier", x, 1001, 2001, 4001, 2002);
    }

    /** "one that has done all ENDS". */
    private static void oneThatHasDoneAllEnds(Due due) {
        CarThreads x = Edges.nodes(1, 1);
        x.node(2, 0);
        x.node(200, 0);
        x.node(200, 0);
        x.waits(3, 2, 4);
        x.waits(4, 2, 3);
        due.is("run()", x.run(), 2);
        for (int n = 1; n <= 4; n++) {
            due.is("finished(" + n + ")", x.finished(n), n <= 2 ? 1 : 0);
            due.is("interrupt(" + n + ")", x.interrupt(n), n > 2);
            due.is("safe(" + n + ")", x.safe(n), 0);
        }
    }

    /** "Each READY one does its next STEP". */
    private static void oneStepInAMicrosecond(Due due) {
        CarThreads x = Edges.nodes(30, 200);
        due.is("run()", x.run(), 200);
        for (int micro = 0; micro < 66; micro++) {
            due.is("its first: " + micro, x.log(30 * micro), 1001 + micro);
            due.is("its last: " + micro, x.log(30 * micro + 29), 30001 + micro);
        }
        due.is("all ended", x.close(), 0);
    }
}
