import java.util.Random;

/** LANGUAGE.md, rule 7: no call may ever throw, for any arguments in any state, late ones too. */
public final class AnyCallEndsTest {
    private static final int OBJECTS = 200;
    private static final int CALLS = 3000;
    private static final int[] EDGES = {
        Integer.MIN_VALUE, Integer.MIN_VALUE + 1, -65536, -256, -2, -1, 0, 1, 2, 15, 16, 17, 29, 30, 31,
        199, 200, 201, 255, 256, 499, 500, 501, 999, 1000, 1001, 1999, 2000, 2001, 65536,
        Integer.MAX_VALUE - 1, Integer.MAX_VALUE,
    };

    public static void main(String[] args) {
        for (int seed = 0; seed < OBJECTS; seed++) {
            Random random = new Random(seed);
            CarThreads x = new CarThreads();
            for (int call = 0; call < CALLS; call++) {
                anyCall(random, x);
            }
        }
    }

    private static int any(Random random) {
        int kind = random.nextInt(4);
        return kind == 0 ? EDGES[random.nextInt(EDGES.length)] : random.nextInt(kind == 1 ? 210 : 33);
    }

    private static long anyLong(Random random) {
        int kind = random.nextInt(4);
        return kind == 0 ? random.nextLong() : kind == 1 ? Long.MAX_VALUE : any(random);
    }

    private static void anyCall(Random random, CarThreads x) {
        switch (random.nextInt(random.nextInt(10) == 0 ? 12 : 11)) {
            case 0 -> x.node(any(random), any(random));
            case 1 -> x.waits(any(random), any(random), any(random));
            case 2 -> x.turn(any(random));
            case 3 -> x.run();
            case 4 -> x.log(any(random));
            case 5 -> x.safe(any(random));
            case 6 -> x.cut(any(random), anyLong(random));
            case 7 -> x.interrupt(any(random));
            case 8 -> x.held(any(random), any(random));
            case 9 -> x.barrier(any(random));
            case 10 -> x.finished(any(random));
            default -> x.close();
        }
    }
}
