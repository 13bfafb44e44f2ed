/** Promise 11, at its edges, and: "before STEP 1, s + 1, 2 s + 1, .. a node WAITS". */
public final class Edge11BarrierTest {
    public static void main(String[] args) {
        Due due = new Due();
        sizesAreTakenUpToBothEnds(due);
        sizesOutsideAreRefused(due);
        aRefusedSizeHoldsNobodyBack(due);
        zeroIsNone(due);
        oneIsBeforeEachStep(due);
        beforeEachOfItsStepsAndNoOther(due);
        theLargestThatCanHoldANodeBack(due);
        theLargestHoldsNobodyBack(due);
        allThatAreAliveMustHaveDoneAsMany(due);
        endedOnesHoldNobodyBack(due);
        bothABarrierAndAnotherNode(due);
        due.end();
    }

    /** "The BARRIER's size (0: none): what it was." */
    private static void sizesAreTakenUpToBothEnds(Due due) {
        CarThreads x = new CarThreads();
        int was = 0;
        for (int size : new int[] {0, 1, 200, 199, 0, 200, 200, 1, 0, 0}) {
            due.is("barrier(" + size + ")", x.barrier(size), was);
            was = size;
        }
    }

    /** "-2 it is not 0 .. 200." */
    private static void sizesOutsideAreRefused(Due due) {
        CarThreads x = new CarThreads();
        for (int was : new int[] {0, 7, 200}) {
            x.barrier(was);
            for (int size : Edges.outside(0, 200)) {
                due.is("barrier(" + size + ")", x.barrier(size), -2);
            }
            due.is("it stays", x.barrier(was), was);
        }
    }

    /** Two nodes, the second one a step behind: a barrier before step 2 would hold the first back. */
    private static CarThreads oneStepBehind(int steps) {
        CarThreads x = Edges.nodes(2, steps);
        x.waits(2, 1, 1);
        return x;
    }

    private static void aRefusedSizeHoldsNobodyBack(Due due) {
        CarThreads x = oneStepBehind(2);
        x.barrier(257);
        x.barrier(-1);
        due.is("run()", x.run(), 3);
        due.logIs("as without", x, 1001, 1002, 2001, 2002);

        CarThreads y = oneStepBehind(2);
        y.barrier(1);
        y.barrier(256);
        y.barrier(201);
        due.is("run()", y.run(), 3);
        due.logIs("as with 1", y, 1001, 2001, 1002, 2002);
    }

    /** "A BARRIER of a size s (at first 0: none)". */
    private static void zeroIsNone(Due due) {
        CarThreads x = oneStepBehind(2);
        due.is("run() at first", x.run(), 3);
        due.logIs("at first", x, 1001, 1002, 2001, 2002);

        CarThreads y = oneStepBehind(2);
        y.barrier(1);
        y.barrier(0);
        due.is("run() with none again", y.run(), 3);
        due.logIs("none again", y, 1001, 1002, 2001, 2002);
    }

    private static void oneIsBeforeEachStep(Due due) {
        CarThreads x = oneStepBehind(4);
        x.barrier(1);
        due.is("run()", x.run(), 5);
        due.logIs("size 1", x, 1001, 2001, 1002, 2002, 1003, 2003, 1004, 2004);
    }

    /** Size 3, seven steps: before 4 and 7. Node 1 goes ahead up to 3, waits, and so on. */
    private static void beforeEachOfItsStepsAndNoOther(Due due) {
        CarThreads x = Edges.nodes(2, 7);
        x.barrier(3);
        x.waits(2, 1, 1);
        x.waits(2, 4, 1);
        due.is("run()", x.run(), 9);
        due.logIs("before 4 and 7", x,
            1001, 1002, 2001, 1003, 2002, 2003,
            1004, 1005, 2004, 1006, 2005, 2006,
            1007, 2007);
    }

    /** Size 199: before STEP 200, the last one that a node can have. */
    private static void theLargestThatCanHoldANodeBack(Due due) {
        CarThreads x = oneStepBehind(200);
        x.barrier(199);
        due.is("run()", x.run(), 201);
        due.is("log(396)", x.log(396), 2198);
        due.is("log(397)", x.log(397), 2199);
        due.is("log(398)", x.log(398), 1200);
        due.is("log(399)", x.log(399), 2200);
    }

    /** Size 200: before STEP 201, which no node has. */
    private static void theLargestHoldsNobodyBack(Due due) {
        CarThreads x = oneStepBehind(200);
        x.barrier(200);
        due.is("run()", x.run(), 201);
        due.is("log(396)", x.log(396), 2198);
        due.is("log(397)", x.log(397), 1200);
        due.is("log(398)", x.log(398), 2199);
        due.is("log(399)", x.log(399), 2200);
    }

    /** "until all that are ALIVE have done as many STEPS as are before that one". */
    private static void allThatAreAliveMustHaveDoneAsMany(Due due) {
        CarThreads x = Edges.nodes(30, 3);
        x.barrier(2);
        x.waits(30, 2, 1);
        due.is("the last one is a step behind", x.run(), 4);
        due.is("log(57)", x.log(57), 28002);
        due.is("log(58)", x.log(58), 29002);
        due.is("log(59)", x.log(59), 30002);
        due.is("log(60)", x.log(60), 1003);
        due.is("log(89)", x.log(89), 30003);

        CarThreads y = Edges.twoWaitBefore(3, 3);
        y.node(3, 0);
        y.barrier(2);
        y.waits(1, 3, 3);
        y.waits(3, 2, 1);
        due.is("a new one comes from 0", y.run(), 5);
        due.logIs("new", y, 1001, 2001, 1002, 2002, 3001, 3002, 3003, 1003, 2003);
    }

    private static void endedOnesHoldNobodyBack(Due due) {
        CarThreads x = Edges.eachEnded();
        x.node(3, 0);
        x.barrier(1);
        due.is("five ended before", x.run(), 3);

        CarThreads y = new CarThreads();
        y.node(3, 0);
        y.node(3, 2);
        y.node(1, 0);
        y.node(3, 0);
        y.barrier(1);
        y.interrupt(4);
        due.is("they end on the way", y.run(), 3);
        due.logIs("ended", y, 1001, 2001, 3001, 4001, 1002, 1003);
    }

    /** One that waits for another holds all others back at the barrier. */
    private static void bothABarrierAndAnotherNode(Due due) {
        CarThreads x = Edges.nodes(3, 2);
        x.barrier(1);
        x.waits(2, 2, 3);
        x.waits(3, 2, 2);
        due.is("1 is not held back by those at its step", x.run(), 2);
        due.logIs("1 is through", x, 1001, 2001, 3001, 1002);

        CarThreads y = Edges.nodes(3, 3);
        y.barrier(1);
        y.waits(2, 2, 3);
        y.waits(3, 2, 2);
        due.is("1 waits before 3", y.run(), 2);
        due.is("it is ALIVE", y.finished(1), 0);
        due.is("the barrier goes", y.barrier(0), 1);
        due.is("1 goes on", y.run(), 1);
        due.is("log(4)", y.log(4), 1003);
    }
}
