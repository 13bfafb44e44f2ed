/** Promise 1, at its edges: a new object has no nodes, and nothing else is there either. */
public final class Edge01NewObjectTest {
    public static void main(String[] args) {
        Due due = new Due();
        noNumberIsANode(due);
        nothingIsToBeDone(due);
        nothingIsKeptForNodesThatCome(due);
        theLastCallsThatArePromised(due);
        due.end();
    }

    /** "No nodes." */
    private static void noNumberIsANode(Due due) {
        CarThreads x = new CarThreads();
        for (int n : Edges.outside(1, 0)) {
            due.is("safe(" + n + ")", x.safe(n), -1);
            due.is("finished(" + n + ")", x.finished(n), -1);
            due.is("held(" + n + ", 0)", x.held(n, 0), -1);
            due.is("held(" + n + ", 1)", x.held(n, 1), -1);
            due.is("cut(" + n + ", 0)", x.cut(n, 0), -1);
            due.is("interrupt(" + n + ")", x.interrupt(n), false);
            due.is("waits(" + n + ", 1, 1)", x.waits(n, 1, 1), false);
            x.turn(n);
        }
        due.is("run()", x.run(), 0);
        due.is("the first node", x.node(1, 0), 1);
    }

    private static void nothingIsToBeDone(Due due) {
        CarThreads x = new CarThreads();
        due.is("run()", x.run(), 0);
        due.is("close()", x.close(), 0);
        due.is("log(0)", x.log(0), -1);
        due.is("BARRIER at first 0", x.barrier(200), 0);
        x.node(1, 0);
        due.is("microsecond 0 was not done", x.cut(1, 0), 1);
        due.is("close() of one", x.close(), 1);
    }

    /** "REFUSALS change nothing": what was told of node 1 before it was there, is not kept. */
    private static void nothingIsKeptForNodesThatCome(Due due) {
        CarThreads x = new CarThreads();
        x.cut(1, 0);
        x.interrupt(1);
        x.held(1, 1);
        x.waits(1, 1, 2);
        x.waits(2, 1, 1);
        x.turn(2);
        x.close();
        x.node(2, 0);
        x.node(2, 0);
        due.is("held(1, 0)", x.held(1, 0), 0);
        due.is("thing 1 is free", x.held(2, 1), 1);
        due.is("run()", x.run(), 2);
        due.logIs("neither cut, interrupted nor waiting", x, 1001, 2001, 1002, 2002);
    }

    /** "An object is used for at most 512 calls": the last of them answers as the first ones do. */
    private static void theLastCallsThatArePromised(Due due) {
        CarThreads x = Edges.nodes(30, 200);
        for (int call = 31; call <= 509; call++) {
            x.turn(call % 30 + 1);
        }
        due.is("call 510: run()", x.run(), 200);
        due.is("call 511: log(1999)", x.log(1999), 20067);
        due.is("call 512: finished(30)", x.finished(30), 1);
    }
}
