/** Promises 24 to 29 and section 3 of the terms. */
public final class CouldBeTest {
    private static final int MIN = Integer.MIN_VALUE, MAX = Integer.MAX_VALUE;
    private static final int UNKNOWN = -1, OUTSIDE = -2;

    public static void main(String[] args) {
        bestAndSeen();
        ownAndAll();
        longHistories();
        fromTheBeginning();
        bestRefused();
        often();
        ticks();
        told();
        empty();
        Check.end("CouldBeTest");
    }

    private static void bestAndSeen() {
        Bench x = new Bench("24 best, 25 seen").dueAll(0, "best(0, false)", "seen(0, false)", "best(8, true)", "seen(8, true)");
        x.ways(3, "101010").dueAll(3, "best(0, false)", "best(0, true)").dueAll(0, "best(1, true)", "best(1, false)", "best(8, true)");
        x.dueAll(1, "seen(0, true)", "seen(0, false)").dueAll(2, "seen(1, true)", "seen(1, false)").due("seen(2, true)", 3);
        x.ways(3, "0").due("best(0, true)", 3).due("best(1, true)", 1).due("seen(1, true)", 2).ways(3, "0").due("best(0, true)", 3);
        Bench y = new Bench("24 best, the lesser of both WAYS").ways(3, "0001").ways(5, "11101").due("best(0, true)", 2);
        y.due("seen(0, true)", 2).ways(63, "01").ways(0, "10").due("best(0, false)", 4).due("seen(0, false)", 4);
        Bench z = new Bench("25 seen, no WAY is as WAY 0").ways(3, "000").due("seen(1, true)", 1).due("seen(8, false)", 1);
    }

    private static void ownAndAll() {
        Bench x = new Bench("24 best, OWN or all");
        for (int i = 0; i < 2; i++) x.ways(3, "1").ways(5, "0").ways(3, "0").ways(5, "0");
        x.due("best(0, true)", 2).due("best(0, false)", 2).due("best(1, false)", 2).due("best(1, true)", 0);
        Bench y = new Bench("25 seen, OWN or all").ways(3, "1").ways(5, "0").ways(3, "1").ways(5, "0");
        y.due("seen(1, false)", 2).due("seen(1, true)", 3).due("seen(2, false)", 3).due("seen(2, true)", 3);
    }

    private static void longHistories() {
        Bench x = new Bench("24 best, HISTORY of 8").ways(0, "1000000000");
        x.due("seen(8, true)", 9).due("seen(8, false)", 9).due("seen(7, true)", 8).due("best(8, true)", 1).due("best(7, false)", 1);
        x.ways(0, "1").due("best(8, true)", 1).ways(0, "1").due("best(8, true)", 2).due("best(0, true)", 3).due("seen(8, true)", 9);
    }

    private static void fromTheBeginning() {
        Bench x = new Bench("24 best, from the beginning of THE ROW").after("guesser(2, 3, 3, 0)").ways(3, "1").due("empty()", 1);
        x.ways(3, "10").due("seen(1, true)", 2).due("best(1, true)", 0).due("seen(1, false)", 2).due("best(1, false)", 0);
        x.due("seen(1, true)", 2).due("best(1, true)", 0).due("asked(0)", 3).due("told(3)", 2);
    }

    private static void bestRefused() {
        Bench x = new Bench("24 best, 25 seen, OUTSIDE").ways(3, "01");
        for (int n : new int[] {-1, 9, MIN, MAX}) {
            for (String own : new String[] {"true", "false"}) {
                x.dueAll(OUTSIDE, "best(" + n + ", " + own + ")", "seen(" + n + ", " + own + ")");
            }
        }
        x.due("best(0, true)", 1).due("told(3)", 2);
    }

    private static void often() {
        Bench x = new Bench("26 often").ways(3, "1101").ways(63, "0").ways(0, "1");
        x.due("often(3, 1)", 3).due("often(3, 0)", 1).due("often(3, -1)", 4).due("often(63, 0)", 1).due("often(63, 1)", 0);
        x.due("often(0, -1)", 1).due("often(1, -1)", 0);
        x.dueAll(UNKNOWN, "often(64, 0)", "often(-1, 0)", "often(" + MIN + ", 2)", "often(" + MAX + ", -2)");
        x.dueAll(OUTSIDE, "often(3, 2)", "often(3, -2)", "often(3, " + MIN + ")", "often(3, " + MAX + ")");
        x.after("empty()").due("often(3, -1)", 0).due("often(3, 1)", 0).ways(3, "0").due("often(3, -1)", 1).due("often(3, 0)", 1);
    }

    private static void ticks() {
        Bench x = new Bench("27 ticks").after("op(0, 10, 0, 0, 0)", "run(3)", "guesser(0, 0, 0, 0)", "run(4)").ways(5, "10");
        x.due("ticks(0, 0)", 7).due("ticks(0, 1)", 12).due("ticks(0, 100)", 507).due("told(1)", 7);
        x.dueAll(UNKNOWN, "ticks(1, 0)", "ticks(-1, 0)", "ticks(1, 101)", "ticks(" + MIN + ", -1)");
        x.dueAll(OUTSIDE, "ticks(0, 101)", "ticks(0, -1)", "ticks(0, " + MIN + ")", "ticks(0, " + MAX + ")");
        x.after("fresh(0)").due("ticks(0, 100)", 7).after("again(0)").due("ticks(0, 10)", 7 + 80).after("empty()").due("ticks(0, 0)", 7);
    }

    private static void told() {
        Bench x = new Bench("28 told").after("op(0, 10, 0, 0, 9)", "op(9, 1, 0, 0, 4)", "guesser(0, 0, 0, 0)", "run(50)").ways(5, "11");
        x.due("told(0)", 10).due("told(1)", 2).due("told(2)", 3).due("told(3)", 3).due("told(4)", 1).due("empty()", 3);
        x.due("told(0)", 10).due("told(1)", 2).due("told(2)", 3).due("told(3)", 0).due("told(4)", 1);
        x.dueAll(OUTSIDE, "told(5)", "told(-1)", "told(" + MIN + ")", "told(" + MAX + ")");
    }

    private static void empty() {
        Bench x = new Bench("29 empty").after("guesser(2, 2, 1, 0)", "guesser(1, 0, 0, 0)", "hint(1, 3, 0)").ways(3, "11").ways(2, "1");
        x.due("empty()", 3).due("empty()", 0).due("asked(0)", 3).due("misses(1, -1)", 2).due("inside(1, 0, 0)", 3).due("clashes(1)", 1);
        x.due("pair(1, 0)", 131).due("guess(1, 3)", 0).due("hint(1, 3, -1)", 0).due("guess(1, 3)", 1).due("at(0, 0)", UNKNOWN);
        x.due("inside(0, 0, 3)", 3).ways(3, "1").due("inside(0, 0, 2)", 3).due("told(3)", 1).due("at(0, 0)", 3).due("told(2)", 4);
        x.due("clashes(1)", 2).due("empty()", 1);
    }
}
