import java.util.ArrayList;
import java.util.List;
import java.util.function.Supplier;
import java.util.function.ToLongFunction;

/**
 * "REFUSALS change nothing": an object that has refused a call answers all later ones as its twin
 * does, which was made in the same way and never got that call.
 */
public final class EdgeRefusalsTest {
    private final Due due;
    private final String state;
    private final Supplier<CarThreads> maker;
    private final List<Long> later;

    private EdgeRefusalsTest(Due due, String state, Supplier<CarThreads> maker) {
        this.due = due;
        this.state = state;
        this.maker = maker;
        this.later = laterAnswers(maker.get());
    }

    public static void main(String[] args) {
        Due due = new Due();
        new EdgeRefusalsTest(due, "new", CarThreads::new).refuseForAll(0);

        EdgeRefusalsTest middle = new EdgeRefusalsTest(due, "middle", EdgeRefusalsTest::middle);
        middle.refuseForAll(8);
        middle.refuseInTheMiddle();
        middle.refuseForEnded(new int[] {3, 4, 5, 6}, 2);

        EdgeRefusalsTest full = new EdgeRefusalsTest(due, "full", EdgeRefusalsTest::full);
        full.refuseForAll(30);
        full.refuseInFull();

        EdgeRefusalsTest closed = new EdgeRefusalsTest(due, "closed", EdgeRefusalsTest::closed);
        closed.refuseForAll(8);
        closed.refuseForEnded(new int[] {1, 2, 3, 4, 5, 6, 7, 8}, 2);
        due.end();
    }

    /**
     * Two microseconds done. 1 and 2 wait before 3 for each other; 3 did all, 4 failed, 5 was cut, 6
     * interrupted; 7 waits before 1 for 8 and is to be cut in 6; 8, interrupted, waits for 7.
     */
    private static CarThreads middle() {
        CarThreads x = Edges.nodes(2, 6);
        x.node(2, 0);
        x.node(3, 2);
        for (int n = 5; n <= 8; n++) {
            x.node(4, 0);
        }
        x.waits(1, 3, 2);
        x.waits(2, 3, 1);
        x.waits(7, 1, 8);
        x.waits(8, 1, 7);
        x.cut(5, 1);
        x.cut(7, 6);
        x.interrupt(6);
        x.interrupt(8);
        x.held(1, 1);
        x.held(2, 2);
        x.held(3, 3);
        x.held(7, 16);
        x.run();
        x.barrier(2);
        x.turn(8);
        return x;
    }

    private static CarThreads closed() {
        CarThreads x = middle();
        x.close();
        return x;
    }

    private static CarThreads full() {
        CarThreads x = Edges.nodes(30, 3);
        for (int thing = 1; thing <= 16; thing++) {
            x.held(thing, thing);
        }
        x.waits(1, 1, 30);
        x.waits(30, 1, 1);
        x.cut(2, 2);
        x.interrupt(3);
        x.barrier(200);
        return x;
    }

    /** Under 512 calls, with those of the maker: whatever a call may have changed shows in them. */
    private static List<Long> laterAnswers(CarThreads x) {
        List<Long> answers = new ArrayList<>();
        tellAllNodes(x, answers);
        answers.add((long) x.run());
        answers.add((long) x.node(4, 0));
        answers.add((long) x.node(4, 3));
        answers.add((long) x.run());
        for (int thing = 1; thing <= 16; thing++) {
            answers.add((long) x.held(1, thing));
        }
        answers.add(x.waits(1, 3, 3) ? 1L : 0L);
        answers.add((long) x.run());
        answers.add((long) x.barrier(0));
        answers.add((long) x.run());
        for (int i = 0; i < 100; i++) {
            answers.add((long) x.log(i));
        }
        tellAllNodes(x, answers);
        answers.add((long) x.close());
        for (int n = 1; n <= 31; n++) {
            answers.add((long) x.finished(n));
        }
        return answers;
    }

    private static void tellAllNodes(CarThreads x, List<Long> answers) {
        for (int n = 1; n <= 31; n++) {
            answers.add((long) x.finished(n));
            answers.add((long) x.safe(n));
            answers.add((long) x.held(n, 0));
        }
    }

    private void refuse(String call, long want, ToLongFunction<CarThreads> caller) {
        CarThreads x = maker.get();
        due.is(state + ": " + call, caller.applyAsLong(x), want);
        List<Long> got = laterAnswers(x);
        for (int i = 0; i < got.size(); i++) {
            due.is(state + ": behind " + call + ", answer " + i, got.get(i), later.get(i));
        }
    }

    private void refuseWaits(int node, int step, int other) {
        String call = "waits(" + node + ", " + step + ", " + other + ")";
        refuse(call, 0, x -> x.waits(node, step, other) ? 1 : 0);
    }

    private void refuseCut(int node, long micro, int want) {
        refuse("cut(" + node + ", " + micro + ")", want, x -> x.cut(node, micro));
    }

    private void refuseHeld(int node, int what, int want) {
        refuse("held(" + node + ", " + what + ")", want, x -> x.held(node, what));
    }

    private void refuseNode(int steps, int failsAt, int want) {
        refuse("node(" + steps + ", " + failsAt + ")", want, x -> x.node(steps, failsAt));
    }

    /** What an object with so many nodes refuses in any state. */
    private void refuseForAll(int nodes) {
        for (int n : Edges.outside(1, nodes)) {
            refuseUnknown(n);
        }
        for (int steps : Edges.outside(1, 200)) {
            refuseNode(steps, 0, -2);
            refuseNode(steps, steps, -2);
        }
        for (int failsAt : Edges.outside(0, 5)) {
            refuseNode(5, failsAt, -2);
        }
        for (int size : Edges.outside(0, 200)) {
            refuse("barrier(" + size + ")", -2, x -> x.barrier(size));
        }
        for (int i : Edges.outside(0, 1999)) {
            refuse("log(" + i + ")", -1, x -> x.log(i));
        }
    }

    private void refuseUnknown(int n) {
        for (int step : new int[] {Integer.MIN_VALUE, 0, 1, 3, Integer.MAX_VALUE}) {
            refuseWaits(n, step, 1);
            refuseWaits(1, step, n);
            refuseWaits(n, step, n);
        }
        for (long micro : new long[] {Long.MIN_VALUE, -1, 0, 1, 2, 5, Long.MAX_VALUE}) {
            refuseCut(n, micro, -1);
        }
        for (int what : new int[] {Integer.MIN_VALUE, -1, 0, 1, 5, 16, 17, Integer.MAX_VALUE}) {
            refuseHeld(n, what, -1);
        }
        refuse("interrupt(" + n + ")", 0, x -> x.interrupt(n) ? 1 : 0);
        refuse("safe(" + n + ")", -1, x -> x.safe(n));
        refuse("finished(" + n + ")", -1, x -> x.finished(n));
        refuse("turn(" + n + ")", 0, x -> {
            x.turn(n);
            return 0;
        });
    }

    private void refuseInTheMiddle() {
        for (int step : new int[] {Integer.MIN_VALUE, -1, 0, 1, 2, 7, 8, Integer.MAX_VALUE}) {
            refuseWaits(1, step, 2);
            refuseWaits(1, step, 3);
        }
        refuseWaits(1, 3, 1);
        refuseWaits(8, 1, 8);
        refuseWaits(8, 5, 3);
        for (long micro : new long[] {Long.MIN_VALUE, -1, 0, 1}) {
            refuseCut(1, micro, -2);
            refuseCut(7, micro, -2);
        }
        for (int what : Edges.outside(0, 16)) {
            refuseHeld(1, what, -2);
        }
        for (int what : new int[] {1, 2, 16}) {
            refuseHeld(1, what, -3);
            refuseHeld(2, what, -3);
            refuseHeld(8, what, -3);
        }
    }

    private void refuseForEnded(int[] ended, int microsDone) {
        for (int n : ended) {
            int other = n == 2 ? 1 : 2;
            for (int step = 0; step <= 7; step++) {
                refuseWaits(n, step, other);
            }
            for (long micro : new long[] {Long.MIN_VALUE, -1, 0, microsDone - 1}) {
                refuseCut(n, micro, -2);
            }
            for (long micro : new long[] {microsDone, microsDone + 1, Long.MAX_VALUE}) {
                refuseCut(n, micro, -3);
            }
            for (int what = 1; what <= 16; what++) {
                refuseHeld(n, what, -3);
            }
            refuseHeld(n, 17, -2);
            refuseHeld(n, -1, -2);
            refuse("interrupt(" + n + ")", 0, x -> x.interrupt(n) ? 1 : 0);
        }
    }

    private void refuseInFull() {
        for (int steps : new int[] {1, 2, 199, 200}) {
            refuseNode(steps, 0, -4);
            refuseNode(steps, 1, -4);
            refuseNode(steps, steps, -4);
        }
        for (int thing = 1; thing <= 16; thing++) {
            refuseHeld(thing, thing, -3);
            refuseHeld(30, thing, -3);
        }
        refuseWaits(30, 1, 30);
        refuseWaits(30, 4, 1);
        refuseCut(30, -1, -2);
    }
}
