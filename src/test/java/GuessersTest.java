/** Promises 11 to 23. */
public final class GuessersTest {
    private static final int MIN = Integer.MIN_VALUE, MAX = Integer.MAX_VALUE;
    private static final int NONE = -6, UNKNOWN = -1, OUTSIDE = -2, FULL = -4, NO = -5;

    public static void main(String[] args) {
        guesserLimits();
        guesserOfChoosers();
        guesserFull();
        guess();
        hint();
        profile();
        misses();
        asked();
        clashesAndPairRefused();
        inside();
        fresh();
        freshOfEachKind();
        again();
        againOfChoosers();
        keep();
        keepOfEachKind();
        keepClashes();
        refusedChangesNothing();
        Check.end("GuessersTest");
    }

    private static void made(int kind, int a, int b, int c, int want) {
        new Bench("11 guesser").due("guesser(" + kind + ", " + a + ", " + b + ", " + c + ")", want).due("told(4)", want == 0 ? 1 : 0);
    }

    /** From least to most is right, one below, one above and the ends of the ints are not. */
    private static void limits(int kind, int which, int least, int most, int... right) {
        for (int number : new int[] {least, most, least - 1, most + 1, MIN, MAX}) {
            int[] x = right.clone();
            x[which] = number;
            made(kind, x[0], x[1], x[2], number >= least && number <= most ? 0 : OUTSIDE);
        }
    }

    private static void guesserLimits() {
        limits(0, 0, 0, 2, 0, MIN, MAX);
        limits(1, 0, 0, 6, 0, MAX, MIN);
        limits(2, 0, 0, 8, 0, 0, MAX);
        limits(2, 1, 0, 8, 0, 0, -1);
        limits(3, 0, 0, 8, 0, 0, 0);
        limits(3, 1, 0, 8, 0, 0, 0);
        limits(3, 2, 0, 1, 0, 0, 0);
        limits(4, 0, 1, 7, 1, 1, MIN);
        limits(4, 1, 1, 4, 1, 1, MAX);
        limits(5, 0, 0, 4, 0, 1, 0);
        limits(5, 1, 1, 8, 0, 1, 0);
        limits(5, 2, 0, 50, 0, 1, 0);
        limits(6, 0, 1, 3, 1, MIN, MAX);
        for (int kind : new int[] {-1, 8, MIN, MAX}) made(kind, 0, 0, 0, OUTSIDE);
    }

    private static void guesserOfChoosers() {
        made(7, 0, 0, 0, UNKNOWN);
        made(7, 0, 0, 9, UNKNOWN);
        Bench x = new Bench("11 guesser, KIND 7").due("guesser(1, 6, 0, 0)", 0).due("guesser(0, 0, 0, 0)", 1);
        x.dueAll(UNKNOWN, "guesser(7, 2, 0, 0)", "guesser(7, 0, 2, 0)", "guesser(7, -1, 0, 0)", "guesser(7, 0, -1, 0)",
            "guesser(7, " + MAX + ", 0, 0)", "guesser(7, 0, " + MIN + ", 0)", "guesser(7, 2, 2, 7)", "guesser(7, 0, 2, -1)");
        x.dueAll(OUTSIDE, "guesser(7, 0, 1, 7)", "guesser(7, 0, 1, -1)", "guesser(7, 1, 0, " + MAX + ")", "guesser(7, 1, 0, " + MIN + ")");
        x.due("told(4)", 2).due("guesser(7, 0, 1, 6)", 2).due("guesser(7, 2, 2, 0)", 3).due("guesser(7, 3, 0, 3)", 4).due("told(4)", 5);
    }

    private static void guesserFull() {
        Bench x = new Bench("11 guesser, FULL");
        for (int g = 0; g < 8; g++) x.due("guesser(1, 2, 0, 0)", g);
        x.dueAll(FULL, "guesser(1, 2, 0, 0)", "guesser(7, 0, 7, 0)", "guesser(0, 2, 0, 0)");
        x.dueAll(OUTSIDE, "guesser(1, 7, 0, 0)", "guesser(8, 0, 0, 0)", "guesser(7, 0, 7, 7)");
        x.dueAll(UNKNOWN, "guesser(7, 8, 0, 0)", "guesser(7, 0, 8, 7)", "asked(8)", "guess(8, 0)");
        x.due("told(4)", 8).ways(3, "1").due("asked(7)", 1).due("inside(7, 0, 3)", 2);
    }

    private static void guess() {
        Bench x = new Bench("12 guess").after("guesser(1, 0, 0, 0)", "guesser(0, 1, 0, 0)");
        x.due("guess(0, 0)", 0).due("guess(0, 63)", 0).due("guess(1, 63)", 1).due("asked(0)", 0).due("misses(0, -1)", 0);
        x.ways(3, "1").due("guess(0, 3)", 1).due("guess(0, 5)", 1).due("clashes(0)", 0).due("asked(0)", 1);
        x.dueAll(UNKNOWN, "guess(2, 0)", "guess(-1, 0)", "guess(0, 64)", "guess(0, -1)", "guess(" + MIN + ", " + MAX + ")");
        x.due("inside(0, 0, 0)", 2).due("told(2)", 1);
    }

    private static void hint() {
        Bench x = new Bench("13 hint").after("guesser(1, 6, 0, 0)", "guesser(0, 1, 0, 0)");
        x.due("hint(0, 3, 1)", -1).due("hint(0, 3, 0)", 1).due("hint(0, 3, 0)", 0).due("hint(0, 3, -1)", 0).due("hint(0, 3, -1)", -1);
        x.due("hint(0, 63, 1)", -1).due("guess(0, 63)", 1).due("guess(1, 63)", 1).due("hint(1, 63, 0)", -1).due("guess(1, 63)", 0);
        x.dueAll(UNKNOWN, "hint(2, 0, 0)", "hint(-1, 0, 0)", "hint(0, 64, 0)", "hint(0, -1, 0)", "hint(2, 64, 9)", "hint(0, 64, 2)",
            "hint(2, 0, -2)");
        x.dueAll(OUTSIDE, "hint(0, 63, 2)", "hint(0, 63, -2)", "hint(0, 63, " + MIN + ")", "hint(0, 63, " + MAX + ")");
        x.due("hint(0, 63, -1)", 1).due("hint(1, 63, -1)", 0).due("guess(0, 63)", 0);
    }

    private static void profile() {
        Bench x = new Bench("14 profile").after("guesser(1, 0, 0, 0)", "guesser(0, 0, 0, 0)", "hint(0, 9, 1)", "hint(0, 3, 0)");
        x.ways(3, "110").ways(5, "001").ways(7, "01").ways(63, "0").due("profile(0)", 4);
        x.due("hint(0, 3, -1)", 1).due("hint(0, 5, -1)", 0).due("hint(0, 7, -1)", 1).due("hint(0, 63, -1)", 0).due("hint(0, 9, -1)", -1);
        x.due("hint(1, 3, -1)", -1).due("profile(0)", 4).after("empty()").ways(8, "1").due("profile(0)", 1);
        x.due("hint(0, 3, -1)", -1).due("hint(0, 8, -1)", 1).due("profile(0)", 1).after("empty()").due("profile(0)", 0);
        x.due("hint(0, 8, -1)", -1).dueAll(UNKNOWN, "profile(2)", "profile(-1)", "profile(" + MIN + ")", "profile(" + MAX + ")");
        x.due("asked(0)", 10).ways(0, "1").due("profile(0)", 1).due("hint(0, 0, -1)", 1);
    }

    private static void misses() {
        Bench x = new Bench("15 misses").after("guesser(0, 0, 0, 0)").ways(3, "1101").ways(63, "01").ways(0, "1");
        x.due("misses(0, -1)", 5).due("misses(0, 3)", 3).due("misses(0, 63)", 1).due("misses(0, 0)", 1).due("misses(0, 4)", 0);
        x.dueAll(UNKNOWN, "misses(1, -1)", "misses(-1, -1)", "misses(0, 64)", "misses(0, -2)", "misses(0, " + MIN + ")",
            "misses(0, " + MAX + ")", "misses(" + MAX + ", 0)");
        x.after("guesser(0, 0, 0, 0)").due("misses(1, -1)", 0).ways(3, "1").due("misses(1, 3)", 1).due("misses(0, 3)", 4);
    }

    private static void asked() {
        Bench x = new Bench("16 asked").after("guesser(0, 0, 0, 0)").ways(3, "11").after("guesser(6, 1, 0, 0)");
        x.due("asked(0)", 2).due("asked(1)", 0).after("op(0, 10, 0, 0, 0)", "run(3)").due("asked(0)", 5).due("asked(1)", 3);
        x.dueAll(UNKNOWN, "asked(2)", "asked(-1)", "asked(" + MIN + ")", "asked(" + MAX + ")");
        x.after("hint(0, 0, 1)", "run(1)", "empty()").due("asked(0)", 6);
    }

    private static void clashesAndPairRefused() {
        Bench x = new Bench("17 clashes, 18 pair").after("guesser(0, 0, 0, 0)", "guesser(1, 0, 0, 0)").ways(1, "1").ways(0, "1");
        x.due("clashes(1)", 1).due("pair(1, 0)", 1).due("pair(1, 1)", NONE).due("pair(1, -1)", NONE);
        x.dueAll(UNKNOWN, "clashes(2)", "clashes(-1)", "pair(2, 0)", "pair(-1, 0)", "pair(2, -1)", "clashes(" + MIN + ")");
        x.dueAll(NO, "clashes(0)", "pair(0, 0)", "pair(0, -1)", "pair(0, 40)");
    }

    private static void inside() {
        Bench x = new Bench("19 inside").after("guesser(0, 1, 0, 0)", "guesser(1, 1, 0, 0)", "guesser(2, 2, 0, 0)",
            "guesser(3, 2, 0, 0)", "guesser(4, 2, 1, 0)", "guesser(5, 1, 2, 0)", "guesser(6, 1, 0, 0)", "guesser(7, 1, 2, 2)");
        x.dueAll(-1001, "inside(0, 0, 0)", "inside(0, 5, 0)", "inside(0, 0, -1)", "inside(0, " + MIN + ", " + MAX + ")");
        x.dueAll(-1000, "inside(8, 0, 0)", "inside(-1, 0, 0)", "inside(" + MAX + ", 0, 0)", "inside(" + MIN + ", -1, -1)");
        int[] tables = {0, 1, 1, 1, 3, 2, 64, 1}, widths = {0, 2, 4, 4, 4, 3, 3, 4}, first = {0, 1, 1, 1, 1, 0, 0, 1};
        for (int g = 1; g < 8; g++) {
            int t = tables[g], w = widths[g];
            String in = "inside(" + g + ", ";
            x.due(in + "0, 0)", first[g]).due(in + (t - 1) + ", " + (w - 1) + ")", first[g]);
            x.dueAll(-1000, in + t + ", 0)", in + "-1, 0)", in + "0, " + w + ")", in + "0, -1)", in + MAX + ", 0)", in + "0, " + MAX + ")",
                in + MIN + ", 0)", in + "0, " + MIN + ")", in + "1073741824, 0)", in + "1431655766, 0)");
        }
        x.due("inside(6, 63, 1)", -1).ways(1, "0").due("inside(1, 0, 1)", 0).due("inside(5, 1, 0)", -1).due("inside(6, 1, 1)", 0);
    }

    private static void fresh() {
        Bench x = new Bench("20 fresh").after("guesser(1, 0, 0, 0)", "guesser(1, 0, 0, 0)", "hint(0, 9, 0)");
        x.ways(3, "11").ways(5, "1").ways(9, "1").due("fresh(0)", 4).due("asked(0)", 0).due("misses(0, -1)", 0).due("misses(0, 3)", 0);
        x.due("misses(0, 9)", 0).due("clashes(0)", 0).due("pair(0, 0)", NONE).due("inside(0, 0, 0)", 1).due("guess(0, 3)", 0);
        x.due("asked(1)", 4).due("misses(1, -1)", 1).due("clashes(1)", 2).due("pair(1, 0)", 197).due("inside(1, 0, 0)", 3);
        x.due("told(2)", 4).due("told(3)", 4).ways(7, "1").due("clashes(0)", 0).due("clashes(1)", 3).due("asked(0)", 1);
        x.ways(9, "1").due("misses(0, 9)", 1).due("pair(0, 0)", 457).due("hint(0, 9, -1)", 0).due("fresh(0)", 2).due("fresh(0)", 0);
        x.dueAll(UNKNOWN, "fresh(2)", "fresh(-1)", "fresh(" + MIN + ")", "fresh(" + MAX + ")").due("asked(1)", 6);
    }

    private static void freshOfEachKind() {
        Bench x = new Bench("20 fresh of each KIND").after("guesser(2, 3, 3, 0)", "guesser(3, 3, 3, 0)", "guesser(4, 3, 1, 0)",
            "guesser(5, 0, 2, 9)", "guesser(6, 1, 0, 0)", "guesser(0, 0, 0, 0)", "guesser(7, 5, 4, 0)", "guesser(0, 2, 0, 0)");
        x.ways(0, "11011");
        for (int g = 0; g < 8; g++) x.due("fresh(" + g + ")", 5).due("asked(" + g + ")", 0).due("misses(" + g + ", -1)", 0);
        x.due("inside(0, 0, 0)", 1).due("inside(0, 0, 1)", 1).due("inside(1, 0, 0)", 1).due("inside(1, 0, 3)", 1);
        x.due("inside(2, 0, 0)", 1).due("inside(2, 2, 3)", 1).due("inside(3, 0, 0)", 0).due("inside(3, 0, 1)", 0).due("inside(3, 0, 2)", 0);
        x.due("inside(4, 0, 0)", 0).due("inside(4, 0, 1)", -1).due("inside(4, 0, 2)", 0).due("inside(6, 0, 0)", 1);
        x.ways(0, "1").due("inside(0, 0, 0)", 2).due("inside(1, 0, 0)", 2).due("inside(2, 1, 0)", 2).due("inside(2, 2, 0)", 2);
        x.due("inside(3, 0, 0)", 1).due("inside(3, 0, 1)", -1).due("inside(3, 0, 2)", -1).due("inside(4, 0, 0)", 1).due("inside(6, 0, 0)", 2);
    }

    private static void again() {
        Bench x = new Bench("21 again").after("guesser(1, 0, 0, 0)").ways(3, "11").after("guesser(1, 0, 0, 0)").ways(5, "11");
        x.due("misses(1, -1)", 1).due("asked(1)", 2).due("again(1)", 1).due("asked(1)", 4).due("misses(1, 3)", 1).due("misses(1, 5)", 0);
        x.due("clashes(1)", 1).due("pair(1, 0)", 197).due("inside(1, 0, 0)", 3).due("asked(0)", 4).due("again(1)", 1).due("asked(1)", 4);
        x.after("hint(1, 5, 0)").due("again(1)", 3).due("misses(1, 5)", 2).due("misses(0, -1)", 1).due("hint(1, 5, 0)", 0);
        x.due("told(2)", 4).due("told(3)", 4).after("empty()").due("again(1)", 0).due("asked(1)", 0).due("inside(1, 0, 0)", 1);
        x.due("clashes(1)", 0).dueAll(UNKNOWN, "again(2)", "again(-1)", "again(" + MIN + ")", "again(" + MAX + ")").due("asked(0)", 4);
        Bench y = new Bench("21 again, BACK by the OPS of now").after("guesser(0, 2, 0, 0)").ways(3, "111");
        y.due("misses(0, 3)", 0).after("op(3, 1, 0, 0, 4)").due("again(0)", 3);
    }

    private static void againOfChoosers() {
        Bench x = new Bench("21 again of CHOOSERS").after("guesser(1, 6, 0, 0)", "guesser(0, 1, 0, 0)", "guesser(0, 0, 0, 0)",
            "guesser(7, 0, 1, 6)", "guesser(7, 3, 2, 0)", "guesser(7, 2, 1, 0)").ways(3, "110");
        for (int g = 0; g < 6; g++) x.due("fresh(" + g + ")", 3);
        x.due("again(3)", 2).due("asked(0)", 3).due("asked(1)", 3).due("asked(2)", 0).due("asked(3)", 3).due("asked(4)", 0);
        x.due("asked(5)", 0).due("misses(0, -1)", 2).due("misses(1, -1)", 1).due("inside(3, 0, 3)", 2).due("inside(0, 0, 3)", 2);
        x.due("again(4)", 2).due("asked(2)", 3).due("asked(4)", 3).due("asked(5)", 0).due("asked(0)", 3).due("misses(2, 3)", 2);
        x.due("inside(4, 0, 0)", 1).due("fresh(0)", 3).due("again(2)", 2).due("asked(0)", 0).due("asked(3)", 3);
        x.due("again(3)", 2).due("asked(0)", 3).due("asked(4)", 3).due("inside(3, 0, 3)", 2);
    }

    private static void keep() {
        Bench x = new Bench("22 keep, 23 back").after("guesser(1, 0, 0, 0)", "guesser(1, 0, 0, 0)");
        x.dueAll(UNKNOWN, "back(0, 0)", "back(0, 1)").ways(3, "11").due("keep(0, 0)", 1).dueAll(UNKNOWN, "back(0, 1)", "back(1, 0)");
        x.ways(5, "000").due("keep(0, 1)", 1).due("back(0, 0)", 2).due("asked(0)", 2).due("inside(0, 0, 0)", 3).due("misses(0, 5)", 0);
        x.due("clashes(0)", 0).due("asked(1)", 5).ways(3, "0").due("inside(0, 0, 0)", 2).due("back(0, 0)", 2).due("inside(0, 0, 0)", 3);
        x.due("back(0, 1)", 5).due("inside(0, 0, 0)", 0).due("misses(0, 5)", 2).due("misses(0, -1)", 3).due("clashes(0)", 1);
        x.due("fresh(0)", 5).due("again(0)", 3).due("back(0, 0)", 2).due("fresh(0)", 2).due("keep(0, 0)", 1).due("back(0, 0)", 0);
        x.due("back(0, 1)", 5).due("told(2)", 6).due("told(3)", 6);
        x.dueAll(UNKNOWN, "keep(2, 0)", "keep(-1, 0)", "keep(0, 2)", "keep(0, -1)", "keep(" + MAX + ", " + MIN + ")", "keep(0, " + MAX + ")");
        x.dueAll(UNKNOWN, "back(2, 0)", "back(-1, 0)", "back(0, 2)", "back(0, -1)", "back(0, " + MIN + ")", "back(1, 0)", "back(1, 1)");
        x.due("asked(0)", 5).after("hint(0, 3, 1)").due("back(0, 0)", 0).due("hint(0, 3, 0)", 1).due("keep(0, 0)", 1);
        x.after("hint(0, 3, -1)").due("back(0, 0)", 0).due("hint(0, 3, -1)", -1);
    }

    private static void keepOfEachKind() {
        Bench x = new Bench("22 keep of each KIND").after("guesser(2, 3, 3, 0)", "guesser(3, 3, 3, 0)", "guesser(4, 3, 1, 0)",
            "guesser(5, 0, 2, 9)", "guesser(6, 1, 0, 0)", "guesser(0, 0, 0, 0)", "guesser(7, 5, 4, 0)", "guesser(0, 2, 0, 0)");
        x.ways(0, "11");
        for (int g = 0; g < 8; g++) x.due("keep(" + g + ", 1)", 1);
        x.ways(0, "0101").ways(9, "1");
        for (int g = 0; g < 8; g++) x.due("back(" + g + ", 1)", 2).due("asked(" + g + ")", 2).due("misses(" + g + ", 9)", 0);
        x.due("inside(0, 0, 0)", 2).due("inside(0, 0, 1)", 2).due("inside(0, 0, 3)", 1).due("inside(4, 0, 0)", 2).due("inside(4, 0, 1)", -1);
        x.due("inside(1, 0, 3)", 1).due("inside(2, 0, 0)", 3).due("inside(2, 1, 1)", 2).due("inside(2, 2, 3)", 1).due("inside(6, 0, 0)", 3);
        x.due("inside(3, 0, 0)", 2).due("inside(3, 0, 1)", 0).due("inside(3, 0, 2)", -2);
        x.ways(0, "1").due("inside(0, 0, 3)", 2).due("inside(1, 0, 3)", 2).due("inside(2, 2, 3)", 2).due("inside(4, 0, 0)", 3);
        x.due("inside(3, 0, 0)", 3).due("inside(3, 0, 1)", 1).due("inside(3, 0, 2)", -1).due("misses(5, 0)", 3);
    }

    private static void keepClashes() {
        Bench x = new Bench("22 keep of CLASHES").after("guesser(1, 0, 0, 0)").ways(3, "1").ways(5, "1").due("keep(0, 0)", 1);
        x.ways(9, "1").ways(5, "1").due("clashes(0)", 3).due("pair(0, 1)", 329).due("back(0, 0)", 2).due("clashes(0)", 1);
        x.due("pair(0, 0)", 197).due("pair(0, 1)", NONE).ways(5, "1").due("clashes(0)", 1).ways(3, "1").due("clashes(0)", 2);
        x.due("pair(0, 1)", NONE).ways(4, "1").due("pair(0, 1)", 196).due("back(0, 0)", 2).due("pair(0, 1)", NONE);
        x.due("fresh(0)", 2).ways(8, "1").ways(7, "1").due("pair(0, 0)", 456).due("back(0, 0)", 2).due("pair(0, 0)", 197);
    }

    private static void refusedChangesNothing() {
        Bench x = new Bench("refused calls change nothing").after("guesser(2, 3, 3, 0)", "guesser(5, 1, 2, 5)").ways(3, "101");
        x.after("hint(5, 3, 1)", "hint(0, 99, 1)", "hint(0, 3, 7)", "profile(9)", "fresh(-1)", "again(2)", "keep(0, 5)", "back(0, 0)",
            "branch(3, 5)", "branch(64, 1)", "run(-4)", "stand(99)", "guesser(3, 9, 0, 0)", "guesser(7, 0, 2, 0)", "op(3, 44, 0, 0, 0)");
        x.due("asked(0)", 3).due("misses(0, -1)", 2).due("hint(0, 3, -1)", -1).due("told(4)", 2).due("told(3)", 3).due("told(0)", 0);
        x.due("guess(0, 3)", 0).due("inside(0, 0, 3)", 2).due("inside(0, 0, 2)", 0).due("inside(0, 0, 1)", 2).due("back(0, 1)", UNKNOWN);
    }
}
