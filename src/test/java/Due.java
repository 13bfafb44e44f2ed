/** Counts the answers of one test that are not the ones that are due. */
final class Due {
    private int wrong;

    void is(String call, long got, long want) {
        if (got != want) {
            wrong++;
            System.out.println(call + " answered " + got + ", due is " + want);
        }
    }

    void is(String call, boolean got, boolean want) {
        is(call, got ? 1L : 0L, want ? 1L : 0L);
    }

    /** The whole log must be these entries and no more. */
    void logIs(String when, CarThreads x, int... entries) {
        for (int i = 0; i < entries.length; i++) {
            is(when + ": log(" + i + ")", x.log(i), entries[i]);
        }
        is(when + ": log(" + entries.length + ")", x.log(entries.length), -1);
    }

    void end() {
        if (wrong != 0) {
            System.out.println(wrong + " answers are not as due");
            System.exit(1);
        }
    }
}
