/**
 * Controllers ("nodes") that step microsecond by microsecond as turns come. Who steps in a
 * microsecond is settled before anyone does, so no row of turns can change what is done.
 */
public final class CarThreads {

    private static final int UNKNOWN = -1;
    private static final int OUTSIDE = -2;
    private static final int WRONG_STATE = -3;
    private static final int NO_ROOM = -4;

    private static final int MAX_NODES = 30;
    private static final int MAX_STEPS = 200;
    private static final int MAX_THINGS = 16;
    private static final int MAX_BARRIER = 200;
    private static final int MAX_TURNS = 500;
    private static final int MAX_LOG = 2000;
    private static final int MAX_MICROS_OF_A_RUN = 1000;
    private static final int LOG_NODE_UNIT = 1000;
    private static final long NEVER = -1L;

    private final Node[] nodes;
    private int nodeCount;
    private final Node[] holders;
    private final int[] turnRow;
    private int turnCount;
    private final int[] logRow;
    private int logCount;
    private int barrierSize;
    private long nextMicro;

    public CarThreads() {
        nodes = new Node[MAX_NODES];
        holders = new Node[MAX_THINGS];
        turnRow = new int[MAX_TURNS];
        logRow = new int[MAX_LOG];
    }

    public int node(int steps, int failsAt) {
        if (steps < 1 || steps > MAX_STEPS || failsAt < 0 || failsAt > steps) {
            return OUTSIDE;
        }
        if (nodeCount >= MAX_NODES) {
            return NO_ROOM;
        }
        nodes[nodeCount] = new Node(nodeCount + 1, steps, failsAt);
        nodeCount++;
        return nodeCount;
    }

    public boolean waits(int node, int step, int other) {
        Node waiter = nodeOrNull(node);
        Node awaited = nodeOrNull(other);
        if (waiter == null || awaited == null || waiter == awaited) {
            return false;
        }
        if (!waiter.alive || !waiter.hasYetToDo(step)) {
            return false;
        }
        waiter.awaitedBefore[step] = awaited;
        return true;
    }

    public void turn(int node) {
        if (isKnown(node) && turnCount < MAX_TURNS) {
            turnRow[turnCount] = node;
            turnCount++;
        }
    }

    public int run() {
        int micros = 0;
        while (micros < MAX_MICROS_OF_A_RUN && microsecondHappens()) {
            micros++;
        }
        // A run without a first microsecond uses up its turns as well: they were for this run.
        turnCount = 0;
        return micros;
    }

    public int log(int i) {
        return i >= 0 && i < logCount ? logRow[i] : UNKNOWN;
    }

    public int safe(int node) {
        Node known = nodeOrNull(node);
        if (known == null) {
            return UNKNOWN;
        }
        return known.tookSafeWay ? 1 : 0;
    }

    public int cut(int node, long micro) {
        Node known = nodeOrNull(node);
        if (known == null) {
            return UNKNOWN;
        }
        if (micro < nextMicro) {
            return OUTSIDE;
        }
        if (!known.alive) {
            return WRONG_STATE;
        }
        known.cutMicro = micro;
        return 1;
    }

    public boolean interrupt(int node) {
        Node known = nodeOrNull(node);
        if (known == null || !known.alive) {
            return false;
        }
        known.interrupted = true;
        return true;
    }

    public int held(int node, int what) {
        Node known = nodeOrNull(node);
        if (known == null) {
            return UNKNOWN;
        }
        if (what < 0 || what > MAX_THINGS) {
            return OUTSIDE;
        }
        if (what > 0) {
            if (holders[what - 1] != null || !known.alive) {
                return WRONG_STATE;
            }
            holders[what - 1] = known;
        }
        return countThingsOf(known);
    }

    public int barrier(int kind) {
        if (kind < 0 || kind > MAX_BARRIER) {
            return OUTSIDE;
        }
        int before = barrierSize;
        barrierSize = kind;
        return before;
    }

    public int finished(int node) {
        Node known = nodeOrNull(node);
        return known == null ? UNKNOWN : known.lastPartsDone;
    }

    public int close() {
        int ended = 0;
        for (Node node : nodes) {
            if (node != null && node.alive) {
                endNode(node);
                ended++;
            }
        }
        return ended;
    }

    private boolean isKnown(int number) {
        return number >= 1 && number <= nodeCount;
    }

    private Node nodeOrNull(int number) {
        return isKnown(number) ? nodes[number - 1] : null;
    }

    /** Cuts count even if the microsecond does not happen: they come before the ready are found. */
    private boolean microsecondHappens() {
        endNodesCutNow();
        if (!findReady()) {
            return false;
        }
        stepInTurns();
        stepOthers();
        noteSteps();
        nextMicro++;
        return true;
    }

    private void endNodesCutNow() {
        for (Node node : nodes) {
            if (node != null && node.cutMicro == nextMicro) {
                endNode(node);
            }
        }
    }

    private boolean findReady() {
        int least = leastDoneByAlive();
        boolean found = false;
        for (Node node : nodes) {
            if (node != null) {
                node.ready = node.alive && !node.waitsForAnother() && !waitsAtBarrier(node, least);
                found = found || node.ready;
            }
        }
        return found;
    }

    private int leastDoneByAlive() {
        int least = MAX_STEPS;
        for (Node node : nodes) {
            if (node != null && node.alive) {
                least = Math.min(least, node.done);
            }
        }
        return least;
    }

    private boolean waitsAtBarrier(Node node, int leastDone) {
        return barrierSize > 0 && node.done % barrierSize == 0 && leastDone < node.done;
    }

    private void stepInTurns() {
        for (int t = 0; t < turnCount; t++) {
            Node node = nodeOrNull(turnRow[t]);
            if (node != null && node.ready) {
                stepOnce(node);
            }
        }
        turnCount = 0;
    }

    private void stepOthers() {
        for (Node node : nodes) {
            if (node != null && node.ready) {
                stepOnce(node);
            }
        }
    }

    private void stepOnce(Node node) {
        node.ready = false;
        int step = node.done + 1;
        if (step == node.failsAt) {
            node.tookSafeWay = true;
            endNode(node);
            return;
        }
        node.done = step;
        node.toBeNoted = true;
        if (node.interrupted || node.done == node.steps) {
            endNode(node);
        }
    }

    /** Behind all steps, not at each one, since the log goes by nodes and not by turns. */
    private void noteSteps() {
        for (Node node : nodes) {
            if (node != null && node.toBeNoted) {
                node.toBeNoted = false;
                note(node.number * LOG_NODE_UNIT + node.done);
            }
        }
    }

    private void note(int entry) {
        if (logCount < MAX_LOG) {
            logRow[logCount] = entry;
            logCount++;
        }
    }

    /** A cut may come to a node that has ended already: its last part is not done again. */
    private void endNode(Node node) {
        if (!node.alive) {
            return;
        }
        node.alive = false;
        for (int t = 0; t < MAX_THINGS; t++) {
            if (holders[t] == node) {
                holders[t] = null;
            }
        }
        node.lastPartsDone++;
    }

    private int countThingsOf(Node node) {
        int count = 0;
        for (int t = 0; t < MAX_THINGS; t++) {
            if (holders[t] == node) {
                count++;
            }
        }
        return count;
    }

    private static final class Node {
        final int number;
        final int steps;
        final int failsAt;
        final Node[] awaitedBefore;
        int done;
        boolean alive;
        boolean ready;
        boolean toBeNoted;
        boolean interrupted;
        boolean tookSafeWay;
        int lastPartsDone;
        long cutMicro;

        Node(int number, int steps, int failsAt) {
            this.number = number;
            this.steps = steps;
            this.failsAt = failsAt;
            this.awaitedBefore = new Node[steps + 1];
            this.alive = true;
            this.cutMicro = NEVER;
        }

        boolean hasYetToDo(int step) {
            return step > done && step <= steps;
        }

        boolean waitsForAnother() {
            int step = done + 1;
            if (!hasYetToDo(step)) {
                return false;
            }
            Node other = awaitedBefore[step];
            return other != null && other.alive && other.done < step;
        }
    }
}
