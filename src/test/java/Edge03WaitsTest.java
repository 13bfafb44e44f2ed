/** Promise 3, at its edges, and what the Terms say of waiting for another one. */
public final class Edge03WaitsTest {
    public static void main(String[] args) {
        Due due = new Due();
        bothMustBeThere(due);
        toldBeforeTheOtherIsThere(due);
        theyMustBeTwo(due);
        theStepMustBeItsOwn(due);
        theStepMustNotBeDone(due);
        itMustBeAlive(due);
        theOtherNeedNotBeAlive(due);
        itWaitsUntilTheOtherHasDoneAsMany(due);
        itDoesNotWaitIfTheOtherHasDoneAsManyOrMore(due);
        itWaitsUntilTheOtherHasEnded(due);
        itMayWaitBeforeTheStepThatFails(due);
        theOneToldLastCounts(due);
        aRefusalLeavesTheOneToldBefore(due);
        due.end();
    }

    /** "there are both". */
    private static void bothMustBeThere(Due due) {
        CarThreads x = Edges.nodes(2, 3);
        for (int n : Edges.outside(1, 2)) {
            due.is("waits(" + n + ", 1, 2)", x.waits(n, 1, 2), false);
            due.is("waits(1, 1, " + n + ")", x.waits(1, 1, n), false);
            due.is("waits(" + n + ", 1, " + n + ")", x.waits(n, 1, n), false);
        }
        due.is("run()", x.run(), 3);
        due.logIs("nobody waited", x, 1001, 2001, 1002, 2002, 1003, 2003);
    }

    private static void toldBeforeTheOtherIsThere(Due due) {
        CarThreads x = Edges.nodes(1, 1);
        due.is("no node 2 yet", x.waits(1, 1, 2), false);
        x.node(1, 0);
        due.is("run()", x.run(), 1);
        due.logIs("it was not kept", x, 1001, 2001);
    }

    /** "they are two". */
    private static void theyMustBeTwo(Due due) {
        CarThreads x = Edges.nodes(30, 1);
        for (int n = 1; n <= 30; n++) {
            due.is("waits(" + n + ", 1, " + n + ")", x.waits(n, 1, n), false);
        }
        due.is("the first for the last", x.waits(1, 1, 30), true);
        due.is("the last for the first", x.waits(30, 1, 1), true);
        due.is("neighbours", x.waits(29, 1, 30), true);
        due.is("run()", x.run(), 1);
        for (int n = 1; n <= 30; n++) {
            boolean waits = n == 1 || n == 29 || n == 30;
            due.is("finished(" + n + ")", x.finished(n), waits ? 0 : 1);
        }
    }

    /** "the STEP is one of its own": the other one's count is of no matter. */
    private static void theStepMustBeItsOwn(Due due) {
        for (int steps : new int[] {1, 2, 199, 200}) {
            CarThreads x = new CarThreads();
            x.node(steps, 0);
            x.node(1, 0);
            x.node(200, 0);
            for (int step : Edges.outside(1, steps)) {
                due.is(steps + ": waits(1, " + step + ", 2)", x.waits(1, step, 2), false);
                due.is(steps + ": waits(1, " + step + ", 3)", x.waits(1, step, 3), false);
            }
            due.is(steps + ": its first for 2", x.waits(1, 1, 2), true);
            due.is(steps + ": its last for 2", x.waits(1, steps, 2), true);
            due.is(steps + ": its last for 3", x.waits(1, steps, 3), true);
        }
    }

    /** "that it has not done". */
    private static void theStepMustNotBeDone(Due due) {
        CarThreads x = Edges.twoWaitBefore(4, 5);
        x.node(5, 0);
        for (int step = 1; step <= 3; step++) {
            due.is("done: waits(1, " + step + ", 3)", x.waits(1, step, 3), false);
        }
        due.is("the next: waits(1, 4, 3)", x.waits(1, 4, 3), true);
        due.is("the last: waits(1, 5, 3)", x.waits(1, 5, 3), true);
        due.is("behind the last: waits(1, 6, 3)", x.waits(1, 6, 3), false);
        due.is("none done: waits(3, 1, 1)", x.waits(3, 1, 1), true);
    }

    /** "and it is ALIVE". */
    private static void itMustBeAlive(Due due) {
        CarThreads x = Edges.eachEnded();
        x.node(3, 0);
        for (int n = 1; n <= Edges.ENDED; n++) {
            for (int step = 0; step <= 4; step++) {
                due.is("waits(" + n + ", " + step + ", 6)", x.waits(n, step, 6), false);
            }
        }
        due.is("one that is", x.waits(6, 1, 1), true);
    }

    private static void theOtherNeedNotBeAlive(Due due) {
        CarThreads x = Edges.eachEnded();
        x.node(5, 0);
        for (int n = 1; n <= Edges.ENDED; n++) {
            due.is("waits(6, " + n + ", " + n + ")", x.waits(6, n, n), true);
        }
        due.is("it never waits", x.run(), 5);
    }

    /** "until that has done as many STEPS as this STEP's number": at the first, a middle, the last. */
    private static void itWaitsUntilTheOtherHasDoneAsMany(Due due) {
        CarThreads first = Edges.nodes(2, 3);
        first.waits(1, 1, 2);
        due.is("first: run()", first.run(), 4);
        due.logIs("first", first, 2001, 1001, 2002, 1002, 2003, 1003);

        CarThreads middle = Edges.nodes(2, 3);
        middle.waits(1, 2, 2);
        due.is("middle: run()", middle.run(), 4);
        due.logIs("middle", middle, 1001, 2001, 2002, 1002, 2003, 1003);

        CarThreads last = Edges.nodes(2, 200);
        last.waits(1, 200, 2);
        due.is("last: run()", last.run(), 201);
        due.is("last: log(397)", last.log(397), 2199);
        due.is("last: log(398)", last.log(398), 2200);
        due.is("last: log(399)", last.log(399), 1200);
    }

    private static void itDoesNotWaitIfTheOtherHasDoneAsManyOrMore(Due due) {
        CarThreads x = Edges.twoWaitBefore(4, 4);
        x.node(4, 0);
        due.is("1 has done more", x.waits(3, 2, 1), true);
        due.is("1 has done as many", x.waits(3, 3, 1), true);
        due.is("1 has done one less", x.waits(3, 4, 1), true);
        due.is("run()", x.run(), 3);
        due.is("log(8)", x.log(8), 3003);
        due.is("3 waits before its last", x.finished(3), 0);
    }

    /** "or has ENDED": 5 did all, 6 failed, 7 was cut, 8 interrupted, each with 1 step done. */
    private static void itWaitsUntilTheOtherHasEnded(Due due) {
        CarThreads x = Edges.nodes(4, 2);
        x.node(1, 0);
        x.node(3, 2);
        x.node(3, 0);
        x.node(3, 0);
        x.cut(7, 1);
        x.interrupt(8);
        for (int n = 1; n <= 4; n++) {
            due.is("waits(" + n + ", 2, ..)", x.waits(n, 2, n + 4), true);
        }
        due.is("run()", x.run(), 3);
        due.logIs("ended", x, 1001, 2001, 3001, 4001, 5001, 6001, 7001, 8001,
            1002, 3002, 4002,
            2002);
    }

    private static void itMayWaitBeforeTheStepThatFails(Due due) {
        CarThreads x = new CarThreads();
        x.node(3, 3);
        x.node(3, 0);
        due.is("waits(1, 3, 2)", x.waits(1, 3, 2), true);
        due.is("waits(2, 3, 1)", x.waits(2, 3, 1), true);
        due.is("run()", x.run(), 2);
        due.is("it waits, so it did not fail", x.safe(1), 0);
        x.node(1, 0);
        x.run();
        x.waits(1, 3, 3);
        due.is("run() on", x.run(), 2);
        due.is("it failed", x.safe(1), 1);
        due.logIs("then 2 goes", x, 1001, 2001, 1002, 2002, 3001, 2003);
    }

    /** "(A STEP has one at most: the one told last.)" */
    private static void theOneToldLastCounts(Due due) {
        CarThreads x = Edges.twoWaitBefore(1, 2);
        x.node(2, 0);
        due.is("told anew", x.waits(2, 1, 3), true);
        due.is("another step of it", x.waits(2, 2, 1), true);
        due.is("run()", x.run(), 5);
        due.logIs("1 for 2, 2 for 3, then 2 for 1", x, 3001, 2001, 3002, 1001, 1002, 2002);
        due.is("at the end", x.run(), 0);

        CarThreads y = Edges.nodes(3, 1);
        y.waits(3, 1, 2);
        y.waits(1, 1, 2);
        y.waits(1, 1, 3);
        due.is("the first told is of no matter", y.waits(2, 1, 1), true);
        due.is("a ring of three", y.run(), 0);
    }

    private static void aRefusalLeavesTheOneToldBefore(Due due) {
        CarThreads x = Edges.twoWaitBefore(2, 3);
        x.node(1, 0);
        x.run();
        int[][] refused = {
            {1, 2, 1}, {1, 2, 0}, {1, 2, 4}, {1, 1, 3}, {1, 0, 3}, {1, 4, 3}, {1, -2, 3},
            {0, 2, 3}, {4, 2, 3}, {3, 1, 1}, {1, 2 + (1 << 8), 3}, {1 + (1 << 16), 2, 3},
        };
        for (int[] r : refused) {
            String call = "waits(" + r[0] + ", " + r[1] + ", " + r[2] + ")";
            due.is(call, x.waits(r[0], r[1], r[2]), false);
            due.is("both wait behind " + call, x.run(), 0);
        }
        due.is("taken", x.waits(1, 2, 3), true);
        due.is("they go on", x.run(), 3);
        due.logIs("on", x, 1001, 2001, 3001, 1002, 1003, 2002, 2003);
    }
}
