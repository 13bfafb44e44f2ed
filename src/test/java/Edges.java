import java.util.stream.IntStream;

/** What the edge tests share: numbers outside a range, and objects that stand at an edge. */
final class Edges {
    /** How many nodes have ended in an object of eachEnded(). */
    static final int ENDED = 5;

    private Edges() {
    }

    /**
     * Numbers outside least .. most: its neighbours, the ends of int, and those that a byte, a
     * short, or a sign that is lost would bring back into the range.
     */
    static int[] outside(int least, int most) {
        return IntStream.of(
                least - 1, least - 2, most + 1, most + 2, -1, 0, -least, -most,
                least + (1 << 8), most + (1 << 8), least + (1 << 16), most + (1 << 16),
                least + (1 << 31), most + (1 << 31),
                Integer.MIN_VALUE, Integer.MIN_VALUE + 1, Integer.MAX_VALUE - 1, Integer.MAX_VALUE)
            .filter(i -> i < least || i > most)
            .distinct()
            .toArray();
    }

    /** So many nodes, each of so many steps, of which none fails. */
    static CarThreads nodes(int count, int steps) {
        CarThreads x = new CarThreads();
        for (int n = 1; n <= count; n++) {
            x.node(steps, 0);
        }
        return x;
    }

    /**
     * Nodes 1 and 2, of so many steps each, have done all before one step, and wait there for each
     * other: as many microseconds were done.
     */
    static CarThreads twoWaitBefore(int step, int steps) {
        CarThreads x = nodes(2, steps);
        x.waits(1, step, 2);
        x.waits(2, step, 1);
        x.run();
        return x;
    }

    /**
     * Node 1 did all (of 1), 2 failed (at 1 of 3), 3 was cut (in 0), 4 interrupted (behind 1 of 3),
     * 5 closed (before 1 of 3). One microsecond was done.
     */
    static CarThreads eachEnded() {
        CarThreads x = new CarThreads();
        x.node(1, 0);
        x.node(3, 1);
        x.node(3, 0);
        x.node(3, 0);
        x.cut(3, 0);
        x.interrupt(4);
        x.run();
        x.node(3, 0);
        x.close();
        return x;
    }

    /**
     * Microseconds in a row: the first node goes for lengths[0] of them. Of each pair behind it,
     * whose two wait for each other, the first is cut as the one before them ends; the second, of
     * lengths[k] steps, then goes alone. Node 2 k + 1 is the one that goes.
     */
    static CarThreads inARow(int... lengths) {
        CarThreads x = new CarThreads();
        x.node(lengths[0], 0);
        long micro = lengths[0];
        for (int k = 1; k < lengths.length; k++) {
            int first = x.node(1, 0);
            int second = x.node(lengths[k], 0);
            x.waits(first, 1, second);
            x.waits(second, 1, first);
            x.cut(first, micro);
            micro += lengths[k];
        }
        return x;
    }
}
