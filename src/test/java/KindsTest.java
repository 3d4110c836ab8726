/** Section 2 of the terms: what each KIND of GUESSER GUESSES and LEARNS, HINTS and CLASHES. */
public final class KindsTest {
    private static final int NONE = -6, NO = -5, NOT_INSIDE = -1000;

    public static void main(String[] args) {
        fixed();
        counters();
        mixed();
        mixedHistory();
        own();
        votes();
        votesOfLongHistories();
        weights();
        weightsUntilSure();
        weightsAndHints();
        loops();
        loopsLose();
        loopsAtMost255();
        chooser();
        chooserByGuessesMadeHere();
        choosersOfChoosers();
        hints();
        clashes();
        clashesOfEachKind();
        pairs();
        Check.end("KindsTest");
    }

    private static void fixed() {
        Bench x = new Bench("0 FIXED").after("guesser(0, 0, 0, 0)", "guesser(0, 1, 0, 0)", "guesser(0, 2, 0, 0)");
        x.guesses(0, 5, "1100", "0000").guesses(1, 5, "1100", "1111").guesses(2, 5, "1100", "1111");
        x.due("misses(0, -1)", 6).due("misses(1, -1)", 6).due("misses(2, -1)", 6);
        x.after("op(10, 9, 0, 0, 10)").due("guess(2, 10)", 1).after("op(10, 9, 0, 0, 11)").due("guess(2, 10)", 0);
        x.after("op(10, 9, 0, 0, 9)").due("guess(2, 10)", 1).after("op(10, 12, 0, 0, 63)").due("guess(2, 10)", 0);
        x.after("op(10, 1, 0, 0, -5)").due("guess(2, 10)", 1).after("op(10, 1, 0, 0, 11)").due("guess(2, 10)", 0);
        x.due("guess(2, 0)", 1).due("guess(2, 63)", 1).ways(10, "1").due("misses(2, 10)", 1).due("misses(1, 10)", 0);
    }

    private static void counters() {
        Bench x = new Bench("1 COUNTERS").after("guesser(1, 0, 0, 0)", "guesser(1, 2, 0, 0)", "guesser(1, 6, 0, 0)");
        x.due("inside(0, 0, 0)", 1).guesses(0, 5, "1111000001", "0111110000").due("misses(0, 5)", 4).due("inside(0, 0, 0)", 1);
        Bench y = new Bench("1 COUNTERS by the lowest bits").after("guesser(1, 2, 0, 0)", "guesser(1, 6, 0, 0)");
        y.ways(1, "1").ways(5, "1").due("inside(0, 0, 1)", 3).due("inside(1, 0, 1)", 2).due("inside(1, 0, 5)", 2);
        y.due("guess(0, 9)", 1).due("guess(0, 61)", 1).due("guess(0, 2)", 0).due("guess(1, 9)", 0).due("guess(1, 5)", 1);
        y.due("misses(0, 5)", 0).due("misses(1, 5)", 1).ways(63, "1").due("inside(1, 0, 63)", 2).due("inside(0, 0, 3)", 2);
    }

    private static void mixed() {
        Bench x = new Bench("2 MIXED").after("guesser(2, 3, 2, 0)").ways(5, "110");
        x.due("inside(0, 0, 5)", 2).due("inside(0, 0, 4)", 2).due("inside(0, 0, 6)", 0).due("inside(0, 0, 7)", 1);
        x.due("guess(0, 5)", 0).due("guess(0, 7)", 1).due("guess(0, 6)", 1).due("guess(0, 4)", 0).due("guess(0, 15)", 1);
        x.due("misses(0, -1)", 2).ways(7, "1").due("inside(0, 0, 5)", 3).due("guess(0, 5)", 1);
        Bench y = new Bench("2 MIXED, more HISTORY than table").after("guesser(2, 1, 8, 0)", "guesser(2, 0, 8, 0)").ways(0, "10");
        y.due("inside(0, 0, 0)", 2).due("inside(0, 0, 1)", 0).due("guess(0, 0)", 1).due("guess(0, 1)", 0);
        y.due("inside(1, 0, 0)", 1).due("inside(1, 0, 1)", NOT_INSIDE);
    }

    private static void mixedHistory() {
        Bench x = new Bench("2 MIXED, the latest WAY is lowest").after("guesser(2, 3, 3, 0)").ways(0, "1001");
        x.due("inside(0, 0, 0)", 2).due("inside(0, 0, 1)", 0).due("inside(0, 0, 2)", 0).due("inside(0, 0, 4)", 2);
        Bench y = new Bench("2 MIXED, HISTORY of 8 and of 0").after("guesser(2, 8, 8, 0)", "guesser(2, 8, 0, 0)");
        y.ways(0, "111111111").due("inside(0, 0, 255)", 2).due("inside(0, 0, 127)", 2).due("inside(0, 0, 1)", 2);
        y.due("inside(0, 0, 2)", 1).due("inside(1, 0, 0)", 3).due("inside(1, 0, 1)", 1).due("inside(1, 0, 255)", 1);
        y.due("guess(0, 0)", 1).due("misses(0, -1)", 9).due("misses(1, -1)", 1).due("inside(0, 0, 256)", NOT_INSIDE);
        y.ways(3, "0").due("inside(0, 0, 252)", 0).due("inside(1, 0, 3)", 0);
    }

    private static void own() {
        Bench x = new Bench("3 OWN").after("guesser(3, 4, 3, 0)", "guesser(3, 4, 3, 1)");
        x.ways(2, "1").ways(9, "1").ways(2, "01");
        x.due("inside(0, 0, 0)", 3).due("inside(0, 0, 1)", 0).due("inside(0, 0, 2)", 2).due("inside(0, 0, 5)", 1);
        x.due("inside(1, 0, 2)", 2).due("inside(1, 0, 9)", 2).due("inside(1, 0, 3)", 0).due("inside(1, 0, 0)", 2);
        x.due("guess(0, 2)", 0).due("guess(0, 9)", 0).due("guess(0, 30)", 1).due("guess(1, 9)", 0).due("guess(1, 25)", 1);
        Bench y = new Bench("3 OWN, edges").after("guesser(3, 6, 0, 1)", "guesser(3, 1, 8, 0)", "guesser(3, 0, 8, 1)");
        y.ways(4, "11").due("inside(0, 0, 4)", 3).due("inside(0, 0, 5)", 1).due("inside(1, 0, 0)", 2).due("inside(1, 0, 1)", 2);
        y.due("inside(2, 0, 0)", 3).ways(4, "0").due("inside(1, 0, 1)", 1).due("inside(2, 0, 0)", 2);
        Bench z = new Bench("3 OWN HISTORY of 8").after("guesser(3, 8, 8, 0)").ways(40, "11111111").ways(41, "0");
        z.due("inside(0, 0, 127)", 2).due("inside(0, 0, 255)", 1).due("inside(0, 0, 0)", 1);
        z.ways(40, "11").due("inside(0, 0, 255)", 3);
    }

    private static void votes() {
        Bench x = new Bench("4 VOTES").after("guesser(4, 3, 1, 0)").due("inside(0, 0, 7)", 1).due("guess(0, 3)", 0);
        x.ways(3, "1").due("inside(0, 0, 7)", 2).due("inside(0, 1, 7)", 2).due("inside(0, 2, 7)", 2).due("guess(0, 3)", 0);
        x.ways(3, "1").due("inside(0, 0, 7)", 3).due("inside(0, 1, 6)", 2).due("inside(0, 2, 6)", 2).due("inside(0, 2, 4)", 1);
        x.due("guess(0, 3)", 1).due("misses(0, -1)", 2).ways(3, "1").due("inside(0, 1, 6)", 3).due("inside(0, 2, 4)", 2);
        x.due("misses(0, -1)", 2).ways(3, "0").due("inside(0, 0, 7)", 2).due("inside(0, 1, 6)", 2).due("inside(0, 2, 4)", 1);
        x.dueAll(NOT_INSIDE, "inside(0, 3, 0)", "inside(0, 0, 8)", "inside(0, -1, 0)", "inside(0, 2, 8)", "inside(0, 1, -1)");
    }

    private static void votesOfLongHistories() {
        Bench x = new Bench("4 VOTES, HISTORIES of 4 and 8").after("guesser(4, 7, 4, 0)").ways(1, "10110");
        x.due("inside(0, 0, 5)", 2).due("inside(0, 1, 5)", 2).due("inside(0, 1, 4)", 0).due("inside(0, 1, 7)", 2);
        x.due("inside(0, 1, 0)", 2).due("inside(0, 1, 14)", 0).ways(1, "1");
        x.due("inside(0, 0, 5)", 3).due("inside(0, 1, 3)", 2).due("inside(0, 2, 19)", 2).due("inside(0, 2, 3)", 1);
        Bench y = new Bench("4 VOTES, the PLACE times 5").after("guesser(4, 7, 1, 0)").ways(63, "1");
        y.due("inside(0, 0, 59)", 2).due("inside(0, 1, 59)", 2).due("inside(0, 0, 63)", 1).due("inside(0, 2, 128)", NOT_INSIDE);
    }

    private static void weights() {
        Bench x = new Bench("5 WEIGHTS").after("guesser(5, 1, 2, 0)").due("guess(0, 3)", 1).ways(3, "0");
        x.due("inside(0, 1, 0)", -1).due("inside(0, 1, 1)", 1).due("inside(0, 1, 2)", 1).due("inside(0, 0, 0)", 0);
        x.due("guess(0, 3)", 0).due("guess(0, 2)", 1).ways(3, "0").due("inside(0, 1, 0)", -1).due("inside(0, 1, 2)", 1);
        x.ways(3, "1").due("inside(0, 1, 0)", 0).due("inside(0, 1, 1)", 0).due("inside(0, 1, 2)", 0).due("guess(0, 3)", 1);
        x.ways(3, "1").due("inside(0, 1, 0)", 1).due("inside(0, 1, 1)", 1).due("inside(0, 1, 2)", -1).due("guess(0, 3)", 1);
        x.ways(3, "0").due("inside(0, 1, 0)", 0).due("inside(0, 1, 1)", 0).due("inside(0, 1, 2)", -2).due("guess(0, 3)", 0);
        x.ways(3, "0").due("inside(0, 1, 0)", 0).due("inside(0, 1, 2)", -2).due("guess(0, 3)", 1).due("misses(0, 3)", 3);
        x.dueAll(NOT_INSIDE, "inside(0, 2, 0)", "inside(0, 1, 3)", "inside(0, -1, 0)", "inside(0, 0, -1)");
    }

    private static void weightsUntilSure() {
        Bench x = new Bench("5 WEIGHTS until the size of SUM is above c").after("guesser(5, 0, 1, 3)", "guesser(5, 0, 1, 4)");
        x.ways(0, "111").due("inside(0, 0, 0)", 3).due("inside(0, 0, 1)", 1).due("inside(1, 0, 0)", 3);
        x.ways(0, "11").due("inside(0, 0, 0)", 3).due("inside(0, 0, 1)", 1).due("inside(1, 0, 0)", 4).due("inside(1, 0, 1)", 2);
        Bench y = new Bench("5 WEIGHTS, a SUM below 0").after("guesser(5, 4, 1, 2)").ways(47, "00");
        y.due("inside(0, 15, 0)", -2).due("inside(0, 15, 1)", 2).due("guess(0, 47)", 0).ways(47, "0");
        y.due("inside(0, 15, 0)", -2).due("inside(0, 15, 1)", 2).due("misses(0, 47)", 1);
    }

    private static void weightsAndHints() {
        Bench x = new Bench("5 WEIGHTS, wrong whatever a HINT says").after("guesser(5, 0, 1, 0)", "hint(0, 0, 0)");
        x.ways(0, "1").due("inside(0, 0, 0)", 1).due("inside(0, 0, 1)", -1).ways(0, "1").due("inside(0, 0, 0)", 2);
        x.due("inside(0, 0, 1)", 0).ways(0, "1").due("inside(0, 0, 0)", 2).due("inside(0, 0, 1)", 0).due("misses(0, 0)", 3);
        x.ways(0, "0").due("inside(0, 0, 0)", 1).due("inside(0, 0, 1)", -1).due("misses(0, 0)", 3);
    }

    private static void loops() {
        Bench x = new Bench("6 LOOPS").after("guesser(6, 1, 0, 0)", "guesser(6, 2, 0, 0)", "guesser(6, 3, 0, 0)");
        x.due("inside(0, 4, 0)", 0).due("inside(0, 4, 1)", -1).due("inside(0, 4, 2)", 0);
        x.guesses(0, 4, "110110110", "111111110").due("misses(0, 4)", 2).due("misses(1, 4)", 3);
        x.guesses(1, 4, "110", "110").due("misses(2, 4)", 4).guesses(2, 4, "110", "110");
        x.due("misses(0, 4)", 2).due("misses(1, 4)", 3).due("misses(2, 4)", 4).due("inside(2, 4, 2)", 3);
        x.ways(4, "110").due("inside(0, 4, 2)", 3).due("inside(0, 4, 1)", 2).due("inside(0, 4, 0)", 0).due("inside(0, 5, 1)", -1);
        x.ways(5, "1").due("inside(0, 5, 0)", 1).due("inside(0, 4, 0)", 0);
        x.dueAll(NOT_INSIDE, "inside(0, 64, 0)", "inside(0, -1, 0)", "inside(0, 0, 3)", "inside(0, 0, -1)");
    }

    private static void loopsLose() {
        Bench x = new Bench("6 LOOPS lose TRUST").after("guesser(6, 1, 0, 0)").ways(4, "110110");
        x.guesses(0, 4, "1111", "1101").due("inside(0, 4, 0)", 4).due("inside(0, 4, 2)", 1).due("misses(0, 4)", 3);
        x.ways(4, "0").due("inside(0, 4, 0)", 0).due("inside(0, 4, 1)", 4).due("inside(0, 4, 2)", 0).due("misses(0, 4)", 4);
        Bench y = new Bench("6 LOOPS without a 1").after("guesser(6, 1, 0, 0)").guesses(0, 63, "0001", "1100");
        y.due("inside(0, 63, 0)", 1).due("inside(0, 63, 1)", 0).due("inside(0, 63, 2)", 2);
    }

    private static void loopsAtMost255() {
        Bench x = new Bench("6 LOOPS count to 255").after("guesser(6, 3, 0, 0)", "op(0, 11, 1, 0, 0)", "register(1, 1)");
        x.due("run(255)", 255).due("inside(0, 0, 0)", 255).due("run(45)", 45).due("inside(0, 0, 0)", 255);
        x.after("register(1, 0)", "run(1)").due("inside(0, 0, 0)", 0).due("inside(0, 0, 1)", 255).due("inside(0, 0, 2)", 0);
        x.after("register(1, 1)", "stand(0)", "run(256)", "register(1, 0)", "run(1)").due("inside(0, 0, 2)", 1);
        x.after("register(1, 1)", "stand(0)", "run(254)", "register(1, 0)", "run(1)");
        x.due("inside(0, 0, 1)", 254).due("inside(0, 0, 2)", 0);
    }

    private static void chooser() {
        Bench x = new Bench("7 CHOOSER").after("guesser(0, 0, 0, 0)", "guesser(0, 1, 0, 0)", "guesser(7, 0, 1, 0)");
        x.after("guesser(7, 1, 0, 6)", "guesser(7, 0, 0, 2)");
        x.guesses(2, 3, "101110", "010111").due("misses(2, 3)", 4).due("inside(2, 0, 0)", 2);
        x.due("inside(3, 0, 3)", 1).due("guess(3, 3)", 1).due("misses(3, -1)", 2);
        x.due("inside(4, 0, 3)", 1).due("guess(4, 3)", 0).due("misses(4, -1)", 4).due("guess(2, 60)", 1).due("guess(3, 4)", 1);
        x.ways(5, "0").due("inside(3, 0, 5)", 2).due("guess(3, 5)", 0).due("inside(3, 0, 64)", NOT_INSIDE);
        x.dueAll(NOT_INSIDE, "inside(2, 0, 1)", "inside(2, 1, 0)", "inside(4, 0, 4)", "inside(4, 0, -1)");
    }

    private static void chooserByGuessesMadeHere() {
        Bench x = new Bench("7 CHOOSER, as they GUESSED ahead of LEARNING");
        x.after("guesser(1, 6, 0, 0)", "guesser(0, 1, 0, 0)", "guesser(7, 0, 1, 6)").ways(3, "1");
        x.due("misses(2, 3)", 1).due("inside(2, 0, 3)", 2).due("guess(2, 3)", 1).ways(3, "1").due("inside(2, 0, 3)", 2);
        x.after("guess(0, 9)", "guess(2, 9)").ways(3, "0").due("misses(2, 3)", 2).due("inside(2, 0, 3)", 2);
        Bench y = new Bench("7 CHOOSER and the HINTS of those it asks");
        y.after("guesser(0, 0, 0, 0)", "guesser(0, 1, 0, 0)", "guesser(7, 0, 1, 0)", "hint(0, 3, 1)");
        y.due("guess(2, 3)", 1).ways(3, "1").due("inside(2, 0, 0)", 1).due("misses(2, 3)", 0);
        y.after("hint(1, 3, 0)").due("guess(2, 3)", 1).ways(3, "1").due("inside(2, 0, 0)", 0).due("misses(2, 3)", 0);
    }

    private static void choosersOfChoosers() {
        Bench x = new Bench("7 CHOOSERS of CHOOSERS").after("guesser(0, 0, 0, 0)", "guesser(0, 1, 0, 0)");
        for (int g = 2; g < 8; g++) x.due("guesser(7, " + (g - 1) + ", 0, 0)", g);
        x.due("guess(7, 3)", 1).after("hint(4, 3, 0)").due("guess(7, 3)", 0).due("guess(3, 3)", 1).due("guess(7, 4)", 1);
        x.ways(3, "0").due("misses(3, 3)", 1).due("misses(4, 3)", 0).due("misses(7, 3)", 0).due("inside(2, 0, 0)", 2);
        x.due("inside(3, 0, 0)", 2).due("inside(4, 0, 0)", 2).due("inside(5, 0, 0)", 1).due("inside(7, 0, 0)", 1);
        x.due("guess(2, 4)", 0).due("guess(7, 4)", 0);
    }

    private static void hints() {
        Bench x = new Bench("HINTS").after("guesser(1, 6, 0, 0)", "hint(0, 3, 1)").due("guess(0, 3)", 1).due("guess(0, 4)", 0);
        x.ways(3, "10").due("misses(0, 3)", 1).due("inside(0, 0, 3)", 1).due("guess(0, 3)", 1);
        x.ways(3, "00").due("misses(0, 3)", 3).due("inside(0, 0, 3)", 0).after("hint(0, 3, -1)").due("guess(0, 3)", 0);
        Bench y = new Bench("a HINT for a CHOOSER, which LEARNS as ever");
        y.after("guesser(0, 0, 0, 0)", "guesser(0, 1, 0, 0)", "guesser(7, 0, 1, 0)", "hint(2, 3, 0)").ways(3, "11");
        y.due("misses(2, 3)", 2).due("inside(2, 0, 0)", 3).due("guess(2, 3)", 0).due("guess(2, 4)", 1);
        Bench z = new Bench("a HINT for LOOPS and VOTES").after("guesser(6, 1, 0, 0)", "guesser(4, 1, 1, 0)");
        z.after("hint(0, 3, 0)", "hint(1, 3, 1)").ways(3, "11").due("misses(0, 3)", 2).due("misses(1, 3)", 0);
        z.due("inside(0, 3, 0)", 2).due("inside(1, 0, 1)", 3);
    }

    private static void clashes() {
        Bench x = new Bench("CLASHES").after("guesser(1, 0, 0, 0)", "hint(0, 5, 1)").due("clashes(0)", 0).due("pair(0, 0)", NONE);
        x.ways(5, "11").due("clashes(0)", 0).ways(3, "1").due("clashes(0)", 1).due("pair(0, 0)", 197).ways(5, "0");
        x.due("clashes(0)", 2).due("pair(0, 0)", 197).due("pair(0, 1)", NONE).after("guess(0, 9)", "guess(0, 5)");
        x.ways(5, "1").due("clashes(0)", 2).ways(9, "1").due("clashes(0)", 3).due("pair(0, 1)", 329).ways(0, "0");
        x.due("pair(0, 2)", 9).due("clashes(0)", 4);
    }

    private static void clashesOfEachKind() {
        Bench x = new Bench("CLASHES by KINDS").after("guesser(0, 2, 0, 0)", "guesser(1, 1, 0, 0)", "guesser(2, 1, 1, 0)",
            "guesser(3, 1, 1, 0)", "guesser(4, 1, 1, 0)", "guesser(5, 1, 1, 0)", "guesser(6, 1, 0, 0)", "guesser(7, 1, 1, 1)");
        x.ways(1, "1").ways(2, "1").ways(3, "1");
        x.due("clashes(0)", NO).due("clashes(4)", NO).due("clashes(6)", NO);
        x.due("pair(0, 0)", NO).due("pair(4, 0)", NO).due("pair(6, -1)", NO);
        x.due("clashes(1)", 1).due("pair(1, 0)", 67).due("clashes(2)", 1).due("pair(2, 0)", 66);
        x.due("clashes(3)", 2).due("pair(3, 0)", 66).due("pair(3, 1)", 131);
        x.due("clashes(5)", 1).due("pair(5, 0)", 67).due("clashes(7)", 1).due("pair(7, 0)", 67).due("pair(7, 1)", NONE);
    }

    private static void pairs() {
        Bench x = new Bench("18 pair, 40 kept").after("guesser(1, 0, 0, 0)");
        for (int place = 63; place >= 0; place--) x.ways(place, "1");
        x.due("clashes(0)", 63).due("pair(0, 0)", 64 * 62 + 63).due("pair(0, 39)", 64 * 23 + 24);
        x.dueAll(NONE, "pair(0, 40)", "pair(0, -1)", "pair(0, 62)", "pair(0, " + Integer.MAX_VALUE + ")",
            "pair(0, " + Integer.MIN_VALUE + ")");
        x.ways(1, "1").ways(63, "1").ways(62, "1").due("clashes(0)", 66).due("pair(0, 40)", NONE).due("pair(0, 1)", 64 * 61 + 62);
    }
}
