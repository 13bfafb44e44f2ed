/** Promise 10, at its edges: THINGS are 1 .. 16, each HELD by one node at most. */
public final class Edge10HeldTest {
    public static void main(String[] args) {
        Due due = new Due();
        noSuchNode(due);
        noSuchThing(due);
        allThingsOfOne(due);
        zeroJustTells(due);
        heldByOneAtMost(due);
        oneThatIsNotAlive(due);
        theFirstRefusalThatFits(due);
        freeHoweverANodeEnds(due);
        thirtyNodes(due);
        due.end();
    }

    /** "-1 there is no node": before -2 and -3. */
    private static void noSuchNode(Due due) {
        CarThreads x = Edges.nodes(2, 1);
        x.held(1, 1);
        for (int n : Edges.outside(1, 2)) {
            for (int what : new int[] {0, 1, 2, 16, 17, -1, Integer.MIN_VALUE, Integer.MAX_VALUE}) {
                due.is("held(" + n + ", " + what + ")", x.held(n, what), -1);
            }
        }
        due.is("1 holds what it held", x.held(1, 0), 1);
        due.is("2 may hold the others", x.held(2, 2), 1);
        due.is("the last too", x.held(2, 16), 2);
    }

    /** "-2 no such THING". */
    private static void noSuchThing(Due due) {
        CarThreads x = Edges.nodes(1, 1);
        for (int what : Edges.outside(0, 16)) {
            due.is("held(1, " + what + ")", x.held(1, what), -2);
            due.is("none behind " + what, x.held(1, 0), 0);
        }
        due.is("the first is free", x.held(1, 1), 1);
        due.is("the last is free", x.held(1, 16), 2);
    }

    /** "how many it HOLDS". */
    private static void allThingsOfOne(Due due) {
        CarThreads x = Edges.nodes(2, 1);
        for (int thing = 16; thing >= 1; thing--) {
            due.is("held(1, " + thing + ")", x.held(1, thing), 17 - thing);
        }
        for (int thing = 1; thing <= 16; thing++) {
            due.is("none is left: held(2, " + thing + ")", x.held(2, thing), -3);
        }
        due.is("a 17th", x.held(1, 17), -2);
        due.is("1 holds all", x.held(1, 0), 16);
        due.is("2 holds none", x.held(2, 0), 0);
    }

    /** "what 0: just tells that". */
    private static void zeroJustTells(Due due) {
        CarThreads x = Edges.nodes(2, 1);
        for (int times = 0; times < 3; times++) {
            due.is("held(1, 0)", x.held(1, 0), 0);
        }
        x.held(1, 1);
        for (int times = 0; times < 3; times++) {
            due.is("held(1, 0)", x.held(1, 0), 1);
            due.is("held(2, 0)", x.held(2, 0), 0);
        }
    }

    /** "-3 it is HELD": by another or by the node itself. */
    private static void heldByOneAtMost(Due due) {
        CarThreads x = Edges.nodes(2, 1);
        due.is("held(1, 1)", x.held(1, 1), 1);
        due.is("held(2, 16)", x.held(2, 16), 1);
        for (int n = 1; n <= 2; n++) {
            due.is("held(" + n + ", 1)", x.held(n, 1), -3);
            due.is("held(" + n + ", 16)", x.held(n, 16), -3);
            due.is("held(" + n + ", 0)", x.held(n, 0), 1);
        }
        x.interrupt(1);
        x.waits(2, 1, 1);
        due.is("run()", x.run(), 2);
        x.node(1, 0);
        due.is("free behind 1", x.held(3, 1), 1);
        due.is("free behind 2", x.held(3, 16), 2);
    }

    /** "-3 .. the node is not ALIVE". */
    private static void oneThatIsNotAlive(Due due) {
        CarThreads x = Edges.eachEnded();
        for (int n = 1; n <= Edges.ENDED; n++) {
            for (int thing = 1; thing <= 16; thing++) {
                due.is("held(" + n + ", " + thing + ")", x.held(n, thing), -3);
            }
            due.is("held(" + n + ", 0)", x.held(n, 0), 0);
        }
        x.node(1, 0);
        for (int thing = 1; thing <= 16; thing++) {
            due.is("still free: " + thing, x.held(6, thing), thing);
        }
        due.is("ended, and it is HELD", x.held(1, 1), -3);
        due.is("6 holds it yet", x.held(6, 0), 16);
    }

    /** "the first that fits": -1 before -2 before -3. */
    private static void theFirstRefusalThatFits(Due due) {
        CarThreads x = Edges.eachEnded();
        x.node(1, 0);
        x.held(6, 1);
        for (int what : Edges.outside(0, 16)) {
            due.is("no node, no thing: held(7, " + what + ")", x.held(7, what), -1);
            due.is("ended, no thing: held(1, " + what + ")", x.held(1, what), -2);
        }
        due.is("no node, it is HELD", x.held(7, 1), -1);
        due.is("6 holds it yet", x.held(6, 0), 1);
    }

    /** "all THINGS that it HOLDS are free", the first and the last ones too, and no others. */
    private static void freeHoweverANodeEnds(Due due) {
        int[][] things = {{1, 16}, {2, 15}, {3, 14}, {4, 13}, {5, 12}};
        CarThreads x = new CarThreads();
        x.node(1, 0);
        x.node(3, 1);
        x.node(3, 0);
        x.node(3, 0);
        x.node(3, 0);
        for (int n = 1; n <= 5; n++) {
            for (int thing : things[n - 1]) {
                x.held(n, thing);
            }
        }
        x.cut(3, 0);
        x.interrupt(4);
        x.node(3, 0);
        x.waits(5, 1, 6);
        x.waits(6, 1, 5);
        due.is("run()", x.run(), 1);
        due.is("5 waits and holds", x.held(5, 0), 2);
        int count = 0;
        for (int n = 1; n <= 4; n++) {
            due.is(n + " has ended", x.held(n, 0), 0);
            for (int thing : things[n - 1]) {
                count++;
                due.is("free: " + thing, x.held(6, thing), count);
            }
        }
        due.is("not free: 5", x.held(6, 5), -3);
        due.is("not free: 12", x.held(6, 12), -3);
        due.is("close()", x.close(), 2);
        x.node(1, 0);
        for (int thing = 1; thing <= 16; thing++) {
            due.is("free behind close: " + thing, x.held(7, thing), thing);
        }
    }

    private static void thirtyNodes(Due due) {
        CarThreads x = Edges.nodes(30, 1);
        due.is("the last node", x.held(30, 16), 1);
        due.is("the first node", x.held(1, 1), 1);
        due.is("it is held by 30", x.held(1, 16), -3);
        due.is("it is held by 1", x.held(30, 1), -3);
        due.is("no 31st", x.held(31, 2), -1);
    }
}
