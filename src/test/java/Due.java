/** Compares answers with those that are due, and ends a test with exit code 1 if one was wrong. */
final class Due {
    private static int asked = 0;
    private static int wrong = 0;

    private Due() {
    }

    static void is(String call, long got, long want) {
        same(call, Long.toString(got), Long.toString(want));
    }

    static void yes(String call, boolean got) {
        is(call, got ? 1L : 0L, 1L);
    }

    static void no(String call, boolean got) {
        is(call, got ? 1L : 0L, 0L);
    }

    static void same(String call, String got, String want) {
        asked++;
        if (!got.equals(want)) {
            wrong++;
            System.out.println(call + " answered " + got + ", due is " + want);
        }
    }

    static boolean failed() {
        return wrong != 0;
    }

    static void end() {
        System.out.println(asked + " answers looked at, " + wrong + " wrong");
        if (wrong != 0) {
            System.exit(1);
        }
    }
}
