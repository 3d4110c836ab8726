/** Counts the answers that are not the ones due, for every test of the project. */
final class Check {
    private static int looked = 0;
    private static int wrong = 0;

    private Check() {
    }

    static void due(String call, long got, long want) {
        looked++;
        if (got == want) return;
        wrong++;
        System.out.println(call + " answered " + got + ", due is " + want);
    }

    static void that(String what, boolean holds) {
        looked++;
        if (holds) return;
        wrong++;
        System.out.println("does not hold: " + what);
    }

    /** Prints the count and ends the test with exit code 1 if an answer was wrong. */
    static void end(String name) {
        System.out.println(name + ": " + looked + " answers looked at, " + wrong + " wrong");
        if (wrong != 0) System.exit(1);
    }

    static int wrongSoFar() {
        return wrong;
    }
}
