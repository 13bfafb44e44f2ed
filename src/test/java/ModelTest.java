import java.util.Random;

/** Random rows of 512 calls, of fixed seeds, each answered by the class and by the model. */
public final class ModelTest {
    private static final int OBJECTS = 3000;
    private static final int CALLS = 512;
    private static final int[] ODD = {Integer.MIN_VALUE, -1000, -1, 0, 31, 201, Integer.MAX_VALUE};

    private final Due due;
    private final Random random;
    private final String name;
    private final int longest;
    private final CarThreads real = new CarThreads();
    private final Model model = new Model();

    private ModelTest(Due due, int seed) {
        this.due = due;
        this.random = new Random(seed);
        this.name = "seed " + seed + ": ";
        this.longest = new int[] {3, 12, 60, 200}[seed % 4];
    }

    public static void main(String[] args) {
        Due due = new Due();
        for (int seed = 0; seed < OBJECTS; seed++) {
            ModelTest test = new ModelTest(due, seed);
            for (int call = 0; call < CALLS; call++) {
                test.anyCall();
            }
        }
        due.end();
    }

    private int upTo(int most) {
        return random.nextInt(most + 1);
    }

    private boolean rarely() {
        return random.nextInt(25) == 0;
    }

    private int odd() {
        return ODD[random.nextInt(ODD.length)];
    }

    private int anyNode() {
        return rarely() ? odd() : 1 + upTo(model.nodes());
    }

    private long anyMicro() {
        if (rarely()) {
            return random.nextLong();
        }
        return model.microsecondsDone() - 3 + upTo(rarely() ? 400 : longest + 3);
    }

    private void anyCall() {
        int kind = random.nextInt(100);
        if (kind < 8) {
            callNode();
        } else if (kind < 30) {
            callWaits();
        } else if (kind < 45) {
            int n = anyNode();
            real.turn(n);
            model.turn(n);
        } else if (kind < 52) {
            due.is(name + "run()", real.run(), model.run());
        } else if (kind < 62) {
            int i = rarely() ? odd() : upTo(model.logSize()) + upTo(1);
            due.is(name + "log(" + i + ")", real.log(i), model.log(i));
        } else if (kind < 75) {
            callOfANode(anyNode());
        } else if (kind < 82) {
            int n = anyNode();
            long at = anyMicro();
            due.is(name + "cut(" + n + ", " + at + ")", real.cut(n, at), model.cut(n, at));
        } else if (kind < 94) {
            int n = anyNode();
            int what = rarely() ? odd() : upTo(17);
            due.is(name + "held(" + n + ", " + what + ")", real.held(n, what), model.held(n, what));
        } else if (kind < 99) {
            int size = rarely() ? odd() : upTo(random.nextBoolean() ? 4 : 201);
            due.is(name + "barrier(" + size + ")", real.barrier(size), model.barrier(size));
        } else if (random.nextInt(4) == 0) {
            due.is(name + "close()", real.close(), model.close());
        }
    }

    private void callNode() {
        int steps = rarely() ? odd() : 1 + random.nextInt(longest);
        int failsAt = rarely() ? odd() : random.nextInt(3) == 0 ? upTo(Math.max(0, steps % 202)) : 0;
        due.is(name + "node(" + steps + ", " + failsAt + ")",
            real.node(steps, failsAt), model.node(steps, failsAt));
    }

    private void callWaits() {
        int n = anyNode();
        int step = rarely() ? odd() : upTo(longest + 1);
        int other = anyNode();
        due.is(name + "waits(" + n + ", " + step + ", " + other + ")",
            real.waits(n, step, other), model.waits(n, step, other));
    }

    private void callOfANode(int n) {
        int kind = random.nextInt(9);
        if (kind == 0) {
            due.is(name + "interrupt(" + n + ")", real.interrupt(n), model.interrupt(n));
        } else if (kind < 5) {
            due.is(name + "safe(" + n + ")", real.safe(n), model.safe(n));
        } else {
            due.is(name + "finished(" + n + ")", real.finished(n), model.finished(n));
        }
    }
}
