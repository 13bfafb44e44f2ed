/** Promise 6, at its edges: entries from 0 on, the first 2000, 1000 times the node and the STEP. */
public final class Edge06LogTest {
    public static void main(String[] args) {
        Due due = new Due();
        anEmptyLog(due);
        outsideOfALogOfSome(due);
        fewerThanTwoThousand(due);
        asManyAsTwoThousand(due);
        moreThanTwoThousand(due);
        fullWithinAMicrosecond(due);
        theGreatestEntry(due);
        byMicrosecondsThenByNodes(due);
        theStepThatFailsIsNotNoted(due);
        due.end();
    }

    private static void outsideIsNone(Due due, CarThreads x, int entries) {
        for (int i : Edges.outside(0, entries - 1)) {
            due.is(entries + " entries: log(" + i + ")", x.log(i), -1);
        }
    }

    /** "-1 there is none". */
    private static void anEmptyLog(Due due) {
        outsideIsNone(due, new CarThreads(), 0);
        outsideIsNone(due, Edges.nodes(30, 200), 0);
    }

    private static void outsideOfALogOfSome(Due due) {
        CarThreads x = Edges.nodes(1, 3);
        x.run();
        due.is("log(0)", x.log(0), 1001);
        due.is("log(2)", x.log(2), 1003);
        outsideIsNone(due, x, 3);
        due.is("log(2) again", x.log(2), 1003);
    }

    /** "(from 0; the first 2000)". */
    private static void fewerThanTwoThousand(Due due) {
        CarThreads x = Edges.nodes(9, 200);
        x.node(199, 0);
        due.is("run()", x.run(), 200);
        due.is("log(1998)", x.log(1998), 9200);
        outsideIsNone(due, x, 1999);
    }

    private static void asManyAsTwoThousand(Due due) {
        CarThreads x = Edges.nodes(10, 200);
        due.is("run()", x.run(), 200);
        due.is("log(0)", x.log(0), 1001);
        due.is("log(1999)", x.log(1999), 10200);
        outsideIsNone(due, x, 2000);
    }

    private static void moreThanTwoThousand(Due due) {
        CarThreads x = Edges.nodes(10, 200);
        x.run();
        x.node(1, 0);
        due.is("run() of one more", x.run(), 1);
        due.is("its step was done", x.finished(11), 1);
        due.is("log(0)", x.log(0), 1001);
        due.is("log(1999)", x.log(1999), 10200);
        outsideIsNone(due, x, 2000);
    }

    /** 13 nodes: 153 microseconds make 1989 entries, so 11 of the next one's 13 are told. */
    private static void fullWithinAMicrosecond(Due due) {
        CarThreads x = Edges.nodes(13, 154);
        due.is("run()", x.run(), 154);
        due.is("log(1988)", x.log(1988), 13153);
        for (int n = 1; n <= 11; n++) {
            due.is("log(" + (1988 + n) + ")", x.log(1988 + n), 1000 * n + 154);
        }
        outsideIsNone(due, x, 2000);
        due.is("13 did its step", x.finished(13), 1);
    }

    /** "1000 times its node and the STEP". */
    private static void theGreatestEntry(Due due) {
        CarThreads x = Edges.nodes(29, 1);
        x.node(200, 0);
        due.is("run()", x.run(), 200);
        due.is("log(0)", x.log(0), 1001);
        due.is("log(28)", x.log(28), 29001);
        due.is("log(29)", x.log(29), 30001);
        due.is("log(30)", x.log(30), 30002);
        due.is("log(228)", x.log(228), 30200);
        due.is("log(229)", x.log(229), -1);
    }

    /** "THE LOG is told by microseconds, of one microsecond by nodes." */
    private static void byMicrosecondsThenByNodes(Due due) {
        CarThreads x = Edges.nodes(3, 2);
        x.waits(1, 1, 3);
        for (int n = 3; n >= 1; n--) {
            x.turn(n);
        }
        due.is("run()", x.run(), 3);
        due.logIs("by microseconds", x, 2001, 3001, 1001, 2002, 3002, 1002);
        x.node(1, 0);
        x.close();
        x.node(1, 0);
        due.is("a later run", x.run(), 1);
        due.logIs("it is noted behind", x, 2001, 3001, 1001, 2002, 3002, 1002, 5001);
    }

    /** "the STEP is not done; otherwise it is done, and it is noted in the LOG". */
    private static void theStepThatFailsIsNotNoted(Due due) {
        CarThreads x = new CarThreads();
        x.node(3, 1);
        x.node(3, 2);
        x.node(3, 3);
        x.node(3, 0);
        due.is("run()", x.run(), 3);
        due.logIs("failed", x, 2001, 3001, 4001, 3002, 4002, 4003);
    }
}
