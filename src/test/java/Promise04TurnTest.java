import java.util.Random;

/** Turns may come in any row: no answer tells which. */
public final class Promise04TurnTest {
    private static final int ENTRIES_ASKED = 120;

    public static void main(String[] args) {
        Due due = new Due();
        turnsDoNotOrderTheLog(due);
        turnsMakeNobodyReady(due);
        turnsOfUnknownNodesAreLost(due);
        moreTurnsThanHaveRoom(due);
        theLogIsCutByNodesNotByTurns(due);
        everyRowOfTurnsDoesTheSame(due);
        due.end();
    }

    private static void turnsDoNotOrderTheLog(Due due) {
        CarThreads x = new CarThreads();
        x.node(2, 0);
        x.node(2, 2);
        x.node(2, 0);
        x.turn(3);
        x.turn(2);
        x.turn(3);
        due.is("run", x.run(), 2);
        due.logIs("by nodes", x, 1001, 2001, 3001, 1002, 3002);
    }

    private static void turnsMakeNobodyReady(Due due) {
        CarThreads x = new CarThreads();
        x.node(1, 0);
        x.node(1, 0);
        x.waits(2, 1, 1);
        x.turn(1);
        x.turn(2);
        x.turn(1);
        due.is("2 waits by what was done so far", x.run(), 2);
        x.turn(1);
        due.is("a turn of an ended one", x.run(), 0);
        due.logIs("none twice", x, 1001, 2001);
    }

    private static void turnsOfUnknownNodesAreLost(Due due) {
        CarThreads x = new CarThreads();
        int[] unknown = {0, -1, 1, 2, 31, Integer.MAX_VALUE, Integer.MIN_VALUE};
        for (int node : unknown) {
            x.turn(node);
        }
        due.is("run of none", x.run(), 0);
        x.node(2, 0);
        for (int node : unknown) {
            x.turn(node);
        }
        due.is("run", x.run(), 2);
        due.logIs("unknown", x, 1001, 1002);
    }

    private static void moreTurnsThanHaveRoom(Due due) {
        CarThreads x = new CarThreads();
        x.node(2, 0);
        x.node(2, 0);
        for (int t = 0; t < 502; t++) {
            x.turn(t < 499 ? 2 : 1);
        }
        due.is("run", x.run(), 2);
        due.logIs("full", x, 1001, 2001, 1002, 2002);
    }

    /** The log has room for 9 of the 11 steps of the microsecond in which the turns count. */
    private static void theLogIsCutByNodesNotByTurns(Due due) {
        CarThreads x = new CarThreads();
        for (int n = 1; n <= 13; n++) {
            x.node(200, 0);
        }
        for (int n = 1; n <= 11; n++) {
            x.waits(n, 182, 12);
        }
        x.waits(12, 1, 13);
        x.waits(13, 1, 12);
        due.is("until all wait", x.run(), 181);
        x.cut(12, 181);
        for (int n = 11; n >= 1; n--) {
            x.turn(n);
        }
        due.is("run", x.run(), 200);
        due.is("log(1990)", x.log(1990), 11181);
        for (int n = 1; n <= 9; n++) {
            due.is("log(" + (1990 + n) + ")", x.log(1990 + n), 1000 * n + 182);
        }
        due.is("log(2000)", x.log(2000), -1);
    }

    private static void everyRowOfTurnsDoesTheSame(Due due) {
        Random random = new Random(4);
        for (int round = 0; round < 300; round++) {
            long seed = random.nextLong();
            long[] plain = answers(seed, 0);
            for (int row = 1; row <= 4; row++) {
                long[] turned = answers(seed, row);
                for (int i = 0; i < plain.length; i++) {
                    due.is("seed " + seed + ", row " + row + ", answer " + i, turned[i], plain[i]);
                }
            }
        }
    }

    /** The same calls for one seed; row 0 tells no turns, each other one tells its own. */
    private static long[] answers(long seed, int row) {
        Random calls = new Random(seed);
        Random turns = new Random(seed + row);
        CarThreads x = new CarThreads();
        int nodes = 2 + calls.nextInt(8);
        for (int n = 0; n < nodes; n++) {
            int steps = 1 + calls.nextInt(12);
            x.node(steps, calls.nextInt(3) == 0 ? 1 + calls.nextInt(steps) : 0);
        }
        x.barrier(calls.nextInt(4));
        long[] got = new long[3 * (1 + 2 * nodes) + ENTRIES_ASKED];
        int count = 0;
        for (int part = 0; part < 3; part++) {
            for (int k = 0; k < 6; k++) {
                x.waits(1 + calls.nextInt(nodes), 1 + calls.nextInt(12), 1 + calls.nextInt(nodes));
                x.held(1 + calls.nextInt(nodes), 1 + calls.nextInt(16));
            }
            x.interrupt(1 + calls.nextInt(nodes));
            x.cut(1 + calls.nextInt(nodes), calls.nextInt(20));
            for (int t = 0; row > 0 && t < 15; t++) {
                x.turn(1 + turns.nextInt(nodes));
            }
            got[count++] = x.run();
            for (int n = 1; n <= nodes; n++) {
                got[count++] = x.finished(n) * 2 + x.safe(n);
                got[count++] = x.held(n, 0);
            }
        }
        for (int i = 0; i < ENTRIES_ASKED; i++) {
            got[count++] = x.log(i);
        }
        return got;
    }
}
