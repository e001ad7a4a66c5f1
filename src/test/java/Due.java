/** Counts checks for a test's main method and tells of those that failed. */
final class Due {
    private static int passed = 0;
    private static int failed = 0;

    private Due() {
    }

    static void is(String what, long got, long want) {
        if (got == want) {
            passed++;
        } else {
            failed++;
            System.out.println(what + " answered " + got + ", due is " + want);
        }
    }

    static void holds(String what, boolean isSo) {
        is(what, isSo ? 1 : 0, 1);
    }

    static void end(String test) {
        System.out.println(test + ": " + passed + " passed, " + failed + " failed");
        if (failed != 0 || passed == 0) {
            System.exit(1);
        }
    }
}
