/** Promise 7, at its edges: 1 or 0, and -1 where there is no node. */
public final class Edge07SafeTest {
    public static void main(String[] args) {
        Due due = new Due();
        noSuchNode(due);
        howeverANodeEnds(due);
        notBeforeItFailed(due);
        cutInTheMicrosecondInWhichItWouldFail(due);
        interruptedAtAndBeforeTheStepThatFails(due);
        due.end();
    }

    /** "-1 there is none." */
    private static void noSuchNode(Due due) {
        for (int count : new int[] {1, 2, 29, 30}) {
            CarThreads x = Edges.nodes(count, 1);
            for (int n : Edges.outside(1, count)) {
                due.is(count + " nodes: safe(" + n + ")", x.safe(n), -1);
            }
            due.is("the first", x.safe(1), 0);
            due.is("the last", x.safe(count), 0);
        }
    }

    /** "Whether a node took its SAFE way: 1 or 0." */
    private static void howeverANodeEnds(Due due) {
        CarThreads x = Edges.eachEnded();
        for (int times = 0; times < 2; times++) {
            for (int n = 1; n <= Edges.ENDED; n++) {
                due.is("safe(" + n + ")", x.safe(n), n == 2 ? 1 : 0);
            }
            x.close();
            x.run();
        }
    }

    private static void notBeforeItFailed(Due due) {
        CarThreads x = new CarThreads();
        x.node(2, 2);
        x.node(2, 2);
        x.waits(1, 2, 2);
        x.waits(2, 2, 1);
        due.is("until both wait", x.run(), 1);
        due.is("1 is yet to fail", x.safe(1), 0);
        due.is("1 is cut", x.cut(1, 1), 1);
        due.is("2 fails", x.run(), 1);
        due.is("1 never failed", x.safe(1), 0);
        due.is("2 did", x.safe(2), 1);
    }

    private static void cutInTheMicrosecondInWhichItWouldFail(Due due) {
        CarThreads x = new CarThreads();
        x.node(2, 2);
        x.node(2, 2);
        x.cut(1, 1);
        x.cut(2, 2);
        due.is("run()", x.run(), 2);
        due.is("cut before it", x.safe(1), 0);
        due.is("to be cut behind it", x.safe(2), 1);
    }

    private static void interruptedAtAndBeforeTheStepThatFails(Due due) {
        CarThreads x = new CarThreads();
        x.node(2, 2);
        x.node(2, 1);
        x.interrupt(1);
        x.interrupt(2);
        due.is("run()", x.run(), 1);
        due.is("it ended behind the step before", x.safe(1), 0);
        due.is("its next step failed", x.safe(2), 1);
        due.logIs("one step", x, 1001);
    }
}
