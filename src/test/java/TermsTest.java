/** The sentences of the terms, but for the GUESSERS' (KindsTest): refusals, THE MACHINE, THE ROW, THE BEST. */
public final class TermsTest {
    private static final int MIN = Integer.MIN_VALUE, MAX = Integer.MAX_VALUE;

    public static void main(String[] args) {
        refusals();
        theMachine();
        theRow();
        theBest();
        Check.end("TermsTest");
    }

    private static void refusals() {
        Sentences t = new Sentences("Terms");
        unknown(t);
        outside(t);
        t.holds("STATE -3 (as told)", "no promise tells of it", x -> {
            Check.due("STATE", WayGuesses.STATE, -3);
            for (int n = 1; n <= 29; n++) Check.that("Promise " + n + " tells no STATE", !Doc.piece("Promise " + n).contains("STATE"));
        });
        t.holds("FULL -4", "a ninth GUESSER of each KIND", x -> x.busy().refused("-4", "guesser(0, 0, 0, 0); guesser(1, 0, 0, 0)",
            "guesser(2, 0, 0, 0); guesser(3, 0, 0, 0); guesser(4, 1, 1, 0); guesser(5, 0, 1, 0); guesser(6, 1, 0, 0); guesser(7, 0, 7, 0)"));
        t.holds("NO -5 (as told)", "KINDS without CLASHES", x -> x.busy().refused("-5",
            "clashes(0); clashes(4); clashes(6); pair(0, 0); pair(4, 0); pair(6, 0)"));
        theFirstThatFits(t);
        theyChangeNothing(t);
        intsWrap(t);
        t.everyWordIsQuoted();
    }

    private static void unknown(Sentences t) {
        String words = "UNKNOWN -1 (there is no such PLACE, GUESSER, BRANCH)";
        for (String place : new String[] {"-2", "64", "MIN", "MAX"}) {
            t.holds(words, "no PLACE " + place, x -> x.busy().refused("-1", "op(P, 1, 0, 0, 0); stand(P); branch(P, 0); guess(0, P)"
                .replace("P", place), "hint(0, P, 0); misses(0, P); often(P, 0)".replace("P", place)));
        }
        for (String g : new String[] {"-1", "8", "MIN", "MAX"}) {
            t.holds(words, "no GUESSER " + g, x -> x.busy().refused("-1", ("guess(G, 0); hint(G, 0, 0); profile(G); misses(G, 0);"
                + "misses(G, -1); asked(G); clashes(G); pair(G, 0); fresh(G); again(G); keep(G, 0); back(G, 0); ticks(G, 0);"
                + "guesser(7, G, 0, 0); guesser(7, 0, G, 0)").replace("G", g)).refused("-1000", "inside(" + g + ", 0, 0)"));
        }
        t.holds(words, "no BRANCH", x -> x.refused("-1", "at(0, 0); at(-1, 0)").busy().refused("-1", "at(9, 0); at(-1, 1); at(MIN, 0); at(MAX, 1)"));
        t.holds(words, "-1 is no PLACE but of misses()", x -> x.busy().refused("-1",
            "op(-1, 1, 0, 0, 0); stand(-1); branch(-1, 0); guess(0, -1); hint(0, -1, 0); often(-1, 0)"));
    }

    private static void outside(Sentences t) {
        String words = "OUTSIDE -2 (another number is not as told)";
        t.holds(words, "one too small", x -> x.busy().refused("-2", "op(0, -1, 0, 0, 0); op(0, 1, -1, 0, 0); op(0, 1, 0, -1, 0)",
            "op(0, 9, 0, 0, -1); register(-1, 0); data(-1, 0); run(-1); branch(0, -1); at(0, -1); guesser(-1, 0, 0, 0)",
            "hint(0, 0, -2); best(-1, true); seen(-1, true); often(0, -2); ticks(0, -1); told(-1)"));
        t.holds(words, "one too large", x -> x.busy().refused("-2", "op(0, 13, 0, 0, 0); op(0, 1, 8, 0, 0); op(0, 1, 0, 8, 0)",
            "op(0, 9, 0, 0, 64); register(8, 0); data(32, 0); run(2001); branch(0, 2); at(0, 2); guesser(8, 0, 0, 0)",
            "hint(0, 0, 2); best(9, true); seen(9, true); often(0, 2); ticks(0, 101); told(5)"));
        for (String end : new String[] {"MIN", "MAX"}) {
            t.holds(words, "the end " + end + " of the ints", x -> x.busy().refused("-2", ("op(0, E, 0, 0, 0); op(0, 1, E, 0, 0);"
                + "op(0, 1, 0, E, 0); op(0, 12, 0, 0, E); register(E, 0); data(E, 0); run(E); branch(0, E); at(0, E); guesser(E, 0, 0, 0);"
                + "hint(0, 0, E); best(E, false); seen(E, false); often(0, E); ticks(0, E); told(E)").replaceAll("\\bE\\b", end)));
        }
    }

    private static void theFirstThatFits(Sentences t) {
        String words = "Calls that are refused answer, the first of these that fits";
        t.holds(words, "UNKNOWN ahead of OUTSIDE", x -> x.busy().refused("UNKNOWN", "op(64, 13, 8, 8, 64); op(-1, 9, 0, 0, -1); branch(64, 2)",
            "branch(-1, -1); at(9, 2); at(-1, -1); hint(8, 0, 2); hint(0, 64, 2); hint(8, 64, -2); often(64, 2); often(-1, -2)",
            "ticks(8, 101); ticks(-1, -1); guesser(7, 8, 0, 7); guesser(7, 0, -1, -1)"));
        t.holds(words, "UNKNOWN ahead of OUTSIDE, no GUESSER yet", x -> x.refused("UNKNOWN", "guesser(7, 0, 0, 7); ticks(0, 101); hint(0, 0, 2)"));
        t.holds(words, "UNKNOWN ahead of FULL", x -> x.busy().refused("UNKNOWN", "guesser(7, 8, 0, 0); guesser(7, 0, 8, 0); guesser(7, -1, 8, 0)"));
        t.holds(words, "OUTSIDE ahead of FULL", x -> x.busy().refused("OUTSIDE", "guesser(8, 0, 0, 0); guesser(-1, 0, 0, 0); guesser(0, 3, 0, 0)",
            "guesser(1, 7, 0, 0); guesser(2, 0, 9, 0); guesser(3, 0, 0, 2); guesser(4, 0, 1, 0); guesser(5, 0, 0, 0); guesser(6, 0, 0, 0)",
            "guesser(7, 0, 0, 7)"));
        t.holds(words, "UNKNOWN ahead of NO", x -> x.see("guesser(0, 0, 0, 0) = 0").refused("UNKNOWN", "clashes(1); pair(1, 0)")
            .refused("-1000", "inside(1, 0, 0)"));
        t.holds(words, "NO ahead of NONE", x -> x.busy().refused("NO", "pair(0, -1); pair(4, 40); pair(6, 99); pair(6, MIN)"));
    }

    private static void theyChangeNothing(Sentences t) {
        t.holds("They change nothing.", "what was told stays", x -> x.busy()
            .refused("OUTSIDE", "register(8, 7); data(32, 7); run(2001); branch(3, 2); hint(1, 3, 2); op(10, 13, 0, 0, 0); op(11, 11, 1, 0, 64)")
            .refused("UNKNOWN", "stand(64); branch(64, 1); hint(8, 3, 0); hint(1, 64, 0); profile(8); fresh(8); again(8); keep(8, 0); back(0, 0)")
            .see("told(0) = 10; told(1) = 6; told(2) = 9; told(3) = 9; told(4) = 8; value(1) = 2; stored(5) = 9; hint(1, 3, 1) = 1")
            .see("asked(0) = 9; asked(7) = 9; often(3, -1) = 5; op(10, 0, 0, 0, 0) = 3; op(11, 0, 0, 0, 0) = 11; back(1, 0) = 7"));
        t.holds("They change nothing.", "a refused GUESSER takes no number", x -> x.see("guesser(0, 0, 0, 0) = 0")
            .refused("UNKNOWN", "guesser(7, 0, 1, 0)").refused("OUTSIDE", "guesser(7, 0, 0, 7); guesser(1, 7, 0, 0)")
            .see("told(4) = 1; guesser(1, 0, 0, 0) = 1; told(4) = 2"));
        t.holds("They change nothing.", "a refused BRANCH is not counted", x -> x.see("guesser(2, 3, 3, 0)").ways(0, "1")
            .refused("OUTSIDE", "branch(0, 2); branch(0, -1)").refused("UNKNOWN", "branch(64, 1)")
            .see("branch(0, 1) = 2; inside(0, 0, 1) = 2; asked(0) = 2"));
    }

    private static void intsWrap(Sentences t) {
        t.holds("Ints wrap.", "above the greatest", x -> reckoned(x, 2, MAX, 1, MIN));
        t.holds("Ints wrap.", "both at the greatest", x -> reckoned(x, 2, MAX, MAX, -2));
        t.holds("Ints wrap.", "both at the least", x -> reckoned(x, 2, MIN, MIN, 0));
        t.holds("Ints wrap.", "below the least", x -> reckoned(x, 3, MIN, 1, MAX));
        t.holds("Ints wrap.", "nothing less the least", x -> reckoned(x, 3, 0, MIN, MIN));
        t.holds("Ints wrap.", "a product that is lost", x -> reckoned(x, 4, 65536, 65536, 0));
        t.holds("Ints wrap.", "a product that is cut", x -> reckoned(x, 4, 65537, 65537, 131073));
        t.holds("Ints wrap.", "the least times -1", x -> reckoned(x, 4, MIN, -1, MIN));
        t.holds("Ints wrap.", "the greatest times itself", x -> reckoned(x, 4, MAX, MAX, 1));
    }

    /** One OP at PLACE 0 with REGISTERS 1 and 2, then what REGISTER 1 is, and that nothing else is changed. */
    private static void reckoned(Bench x, int kind, int one, int two, int want) {
        x.see("op(0, " + kind + ", 1, 2, 77) = 0; register(1, " + one + "); register(2, " + two + "); run(5) = 1; value(1) = " + want);
        x.see("value(2) = " + two + "; value(0) = 0; told(0) = 1; told(1) = 1; told(2) = 0").each(3, 7, "value(#) = 0").each(0, 31, "stored(#) = 0");
    }

    private static void theMachine() {
        Sentences t = new Sentences("Terms 1");
        whatItHas(t);
        reckoningOps(t);
        dataOps(t);
        branchOps(t);
        behind63(t);
        t.everyWordIsQuoted();
    }

    private static void whatItHas(Sentences t) {
        t.holds("THE MACHINE has PLACES 0 to 63", "a walk over all of them", x -> x.each(0, 63, "op(#, 2, 1, 2, 0) = 0")
            .see("register(2, 1); run(63) = 63; told(0) = 63; run(1) = 1; value(1) = 64; told(0) = 0"));
        t.holds("THE MACHINE has PLACES 0 to 63", "one below, one above", x -> x.refused("UNKNOWN", "op(-1, 1, 0, 0, 0); op(64, 1, 0, 0, 0)"));
        t.holds("each an OP (0 at first)", "all PLACES", x -> x.each(0, 63, "stand(#); run(1) = 0; told(0) = #; op(#, 12, 0, 0, 0) = 0"));
        t.holds("REGISTERS 0 to 7", "first and last, one below, one above", x -> x.see("register(0, 4) = 1; register(7, 5) = 1; value(0) = 4",
            "value(7) = 5")
            .refused("OUTSIDE", "register(-1, 1); register(8, 1)"));
        t.holds("32 DATA", "first and last, one below, one above", x -> x.see("data(0, 4) = 1; data(31, 5) = 1; stored(0) = 4; stored(31) = 5")
            .refused("OUTSIDE", "data(-1, 1); data(32, 1)"));
        t.holds("and 32 DATA, ints", "the ends of the ints", x -> x.see("register(3, MIN); register(4, MAX); data(3, MIN); data(4, MAX)")
            .see("value(3) = MIN; value(4) = MAX; stored(3) = MIN; stored(4) = MAX; op(0, 1, 5, 0, MIN); run(1); value(5) = MIN"));
        t.holds("0 at first", "REGISTERS and DATA", x -> x.each(0, 7, "value(#) = 0").each(0, 31, "stored(#) = 0"));
        t.holds("it stands at a PLACE, 0 at first", "the first STEP is that of PLACE 0", x -> x.see("told(0) = 0; op(0, 1, 1, 0, 8)",
            "op(1, 1, 1, 0, 9)")
            .see("run(1) = 1; value(1) = 8; told(0) = 1"));
        t.holds("OPS, with r, s (REGISTERS) and v", "each pair of REGISTERS", x -> {
            for (int r = 0; r < 8; r++) {
                int s = 7 - r;
                x.see("op(" + r + ", 2, " + r + ", " + s + ", 0)").see("register(" + s + ", " + (10 + r) + ")");
            }
            x.see("run(8) = 8; value(0) = 27; value(1) = 27; value(2) = 27; value(3) = 27; value(4) = 40; value(5) = 39; value(6) = 38",
                "value(7) = 37");
        });
        t.holds("OPS, with r, s (REGISTERS) and v", "r and s are the same", x -> x.see("op(0, 2, 3, 3, 0); op(1, 4, 3, 3, 0); op(2, 3, 3, 3, 0)")
            .see("register(3, 5); run(1); value(3) = 10; run(1); value(3) = 100; run(1); value(3) = 0"));
    }

    private static void reckoningOps(Sentences t) {
        t.holds("0 STOP (it stays)", "also with other numbers in it", x -> x.see("op(5, 0, 7, 7, 9) = 0; stand(5) = 0; run(2000) = 0")
            .see("told(0) = 5; told(1) = 0; value(7) = 0; told(2) = 0"));
        t.holds("1 r is v", "any v", x -> reckoned(x, 1, 5, 6, 77));
        t.holds("1 r is v", "v no PLACE", x -> x.see("op(0, 1, 1, 0, 64); op(1, 1, 2, 0, -1); op(2, 1, 3, 0, MAX); run(3) = 3")
            .see("value(1) = 64; value(2) = -1; value(3) = MAX; told(0) = 3"));
        t.holds("2 r is r and s", "a sum", x -> reckoned(x, 2, 5, 6, 11));
        t.holds("2 r is r and s", "unlike signs", x -> reckoned(x, 2, -5, 3, -2));
        t.holds("3 r less s", "below 0", x -> reckoned(x, 3, 5, 6, -1));
        t.holds("3 r less s", "less a negative", x -> reckoned(x, 3, 5, -6, 11));
        t.holds("4 r times s", "unlike signs", x -> reckoned(x, 4, -5, 6, -30));
        t.holds("4 r times s", "times 0", x -> reckoned(x, 4, MAX, 0, 0));
        t.holds("5 the bits of both", "those that both have", x -> reckoned(x, 5, 12, 10, 8));
        t.holds("5 the bits of both", "all bits", x -> reckoned(x, 5, -1, MIN, MIN));
        t.holds("5 the bits of both", "none", x -> reckoned(x, 5, MIN, MAX, 0));
        t.holds("6 r shifted to the right by one (without sign)", "an odd one", x -> reckoned(x, 6, 9, 3, 4));
        t.holds("6 r shifted to the right by one (without sign)", "all bits", x -> reckoned(x, 6, -1, 3, MAX));
        t.holds("6 r shifted to the right by one (without sign)", "the sign alone", x -> reckoned(x, 6, MIN, 0, 1 << 30));
        t.holds("6 r shifted to the right by one (without sign)", "1", x -> reckoned(x, 6, 1, 31, 0));
    }

    private static void dataOps(Sentences t) {
        String loaded = "7 r is DATA at s, by its lowest 5 bits", told = "8 that is r";
        int[][] spots = {{0, 0}, {31, 31}, {32, 0}, {33, 1}, {-1, 31}, {-32, 0}, {MIN, 0}, {MAX, 31}, {1000, 8}};
        for (int[] spot : spots) {
            t.holds(loaded, "s is " + spot[0], x -> x.each(0, 31, "data(#, 1#)").see("op(0, 7, 1, 2, 0); register(2, " + spot[0] + "); run(1) = 1")
                .see("value(1) = 1" + spot[1] + "; value(2) = " + spot[0] + "; stored(" + spot[1] + ") = 1" + spot[1]));
            t.holds(told, "s is " + spot[0], x -> {
                x.each(0, 31, "data(#, 1#)").see("op(0, 8, 1, 2, 0); register(1, -7); register(2, " + spot[0] + "); run(1) = 1");
                for (int i = 0; i < 32; i++) x.see("stored(" + i + ") = " + (i == spot[1] ? "-7" : "1" + i));
                x.see("value(1) = -7; value(2) = " + spot[0]);
            });
        }
        t.holds(loaded, "r and s are the same", x -> x.see("op(0, 7, 5, 5, 0); register(5, 39); data(7, 12); run(1); value(5) = 12; stored(7) = 12"));
        t.holds(told, "r and s are the same", x -> x.see("op(0, 8, 5, 5, 0); register(5, 39); run(1); value(5) = 39; stored(7) = 39"));
    }

    /** A BRANCH at PLACE 10 to 40: where it goes, what THE ROW has, and that no REGISTER is changed. */
    private static void branched(Bench x, int kind, int one, int two, int way) {
        x.see("op(10, " + kind + ", 1, 2, 40); register(1, " + one + "); register(2, " + two + "); stand(10); run(7) = 1");
        x.see("told(0) = " + (way == 1 ? 40 : 11) + "; told(1) = 1; told(2) = 1; told(3) = 1; at(0, 0) = 10; at(0, 1) = " + way);
        x.see("value(1) = " + one + "; value(2) = " + two + "; value(0) = 0");
    }

    private static void branchOps(Sentences t) {
        String below = "9 to v, if r is below s", alike = "10, if r and s are alike", notZero = "11, if r is not 0";
        int[][] belows = {{1, 2, 1}, {2, 2, 0}, {3, 2, 0}, {-1, 0, 1}, {0, -1, 0}, {MIN, MAX, 1}, {MAX, MIN, 0}, {MIN, MIN, 0}, {MIN, 1, 1}};
        for (int[] b : belows) t.holds(below, b[0] + " and " + b[1], x -> branched(x, 9, b[0], b[1], b[2]));
        int[][] alikes = {{2, 2, 1}, {2, 3, 0}, {3, 2, 0}, {0, 0, 1}, {MIN, MIN, 1}, {MIN, 0, 0}, {-1, MAX, 0}, {1000, 1000, 1}};
        for (int[] b : alikes) t.holds(alike, b[0] + " and " + b[1], x -> branched(x, 10, b[0], b[1], b[2]));
        int[][] notZeros = {{0, 5, 0}, {0, 0, 0}, {1, 0, 1}, {1, 1, 1}, {-1, 0, 1}, {MIN, 0, 1}};
        for (int[] b : notZeros) t.holds(notZero, b[0] + " beside " + b[1], x -> branched(x, 11, b[0], b[1], b[2]));
        t.holds("12 to v", "whatever r and s are, and no BRANCH", x -> x.see("op(0, 12, 1, 2, 63); op(63, 12, 2, 1, 0); register(2, 4); run(1) = 1",
            "told(0) = 63")
            .see("run(1) = 1; told(0) = 0; run(2000) = 2000; told(0) = 0; told(1) = 2002; told(2) = 0; told(3) = 0"));
        t.holds("12 to v", "to itself", x -> x.see("op(63, 12, 0, 0, 63); stand(63); run(5) = 5; told(0) = 63; told(1) = 5"));
        String branches = "9, 10, 11 are BRANCHES: their WAY is 1, if it goes to v, else 0.";
        t.holds(branches, "the others are none", x -> x.each(1, 8, "op(#, #, 1, 2, 0)").see("op(0, 12, 0, 0, 1); op(9, 0, 0, 0, 0); run(20) = 9",
            "told(2) = 0; told(3) = 0"));
        t.holds(branches, "v is the next PLACE", x -> x.see("op(5, 11, 1, 0, 6); register(1, 1); stand(5); run(1) = 1; told(0) = 6; at(0, 1) = 1")
            .see("register(1, 0); stand(5); run(1) = 1; told(0) = 6; at(1, 1) = 0"));
        t.holds(branches, "v is its own PLACE", x -> x.see("op(5, 10, 0, 0, 5); stand(5); run(3) = 3; told(0) = 5; told(2) = 3; often(5, 1) = 3"));
        t.holds(branches, "both ends of the PLACES", x -> x.see("op(0, 10, 0, 0, 63); op(63, 10, 0, 0, 0); run(3) = 3; told(0) = 63",
            "often(0, 1) = 2; often(63, 1) = 1"));
    }

    private static void behind63(Sentences t) {
        t.holds("Behind 63 comes 0.", "a plain OP", x -> x.see("op(63, 1, 1, 0, 8); stand(63); run(9) = 1; told(0) = 0; value(1) = 8"));
        t.holds("Behind 63 comes 0.", "a BRANCH that does not go", x -> x.see("op(63, 11, 2, 0, 7); stand(63); run(9) = 1; told(0) = 0",
            "at(0, 0) = 63; at(0, 1) = 0"));
        t.holds("Behind 63 comes 0.", "it runs on there", x -> x.see("op(63, 2, 1, 2, 0); op(0, 12, 0, 0, 63); register(2, 1); stand(63)",
            "run(7) = 7; value(1) = 4"));
        t.holds("Behind 63 comes 0.", "behind 62 comes 63", x -> x.see("op(62, 2, 1, 2, 0); stand(62); run(7) = 1; told(0) = 63"));
    }

    private static void theRow() {
        Sentences t = new Sentences("THE ROW");
        String words = "THE ROW has the BRANCHES as they came, by STEPS or told by hand: PLACE and WAY";
        t.holds(words, "STEPS and hand by turns", x -> x.see("op(0, 11, 1, 0, 20); op(20, 11, 0, 0, 0)").ways(63, "1").see("run(1) = 1").ways(0, "1")
            .see("register(1, 1); stand(0); run(2) = 2; told(3) = 5; at(0, 0) = 63; at(0, 1) = 1; at(1, 0) = 0; at(1, 1) = 0; at(2, 0) = 0",
                "at(2, 1) = 1")
            .see("at(3, 0) = 0; at(3, 1) = 1; at(4, 0) = 20; at(4, 1) = 0; at(5, 0) = UNKNOWN"));
        t.holds(words, "by hand where no BRANCH is an OP", x -> x.see("op(3, 1, 1, 0, 9)").ways(3, "10")
            .see("told(3) = 2; at(0, 0) = 3; value(1) = 0; told(0) = 0; told(1) = 0"));
        String loop = "op(2, 10, 0, 0, 2); stand(2); guesser(0, 0, 0, 0); run(2000) = 2000; run(999) = 999; told(3) = 2999";
        t.holds("3000 kept", "one is left", x -> x.see(loop, "branch(5, 0) = 3000; told(3) = 3000; at(2999, 0) = 5; at(2999, 1) = 0",
            "at(3000, 0) = UNKNOWN"));
        t.holds("3000 kept", "none is left", x -> x.see(loop, "branch(5, 0) = 3000; branch(6, 1) = 3001; told(3) = 3000; at(2999, 0) = 5")
            .see("at(3000, 0) = UNKNOWN; at(3000, 1) = UNKNOWN"));
        t.holds("3000 kept", "emptied, it has room again", x -> x.see(loop, "run(5) = 5; empty() = 3000; told(3) = 0; run(3) = 3; told(3) = 3",
            "told(2) = 3007"));
        t.holds("3000 kept", "it is filled within a run", x -> x.see(loop, "run(2000) = 2000; told(3) = 3000; told(2) = 4999; told(1) = 4999",
            "often(2, 1) = 3000"));
        String others = "(the others are guessed and counted, but not kept)";
        t.holds(others, "by hand", x -> x.see(loop, "guesser(1, 0, 0, 0) = 1").ways(5, "0").ways(6, "11")
            .see("told(2) = 3002; asked(0) = 3002; asked(1) = 3")
            .see("misses(0, 6) = 2; misses(0, -1) = 3001; inside(1, 0, 0) = 2; clashes(1) = 1; pair(1, 0) = 326; often(6, -1) = 0",
                "seen(0, true) = 2"));
        t.holds(others, "by STEPS", x -> x.see(loop, "run(2) = 2; misses(0, 2) = 3001; asked(0) = 3001; often(2, 1) = 3000; again(0) = 3000",
            "asked(0) = 3000"));
        t.everyWordIsQuoted();
    }

    private static void theBest() {
        Sentences t = new Sentences("Terms 3");
        String begin = "THE BEST of a HISTORY of n (0 to 8; from the beginning of THE ROW)";
        t.holds(begin, "0 and 8", x -> x.ways(0, "10101010101").see("best(0, false) = 5; best(8, false) = 0")
            .refused("OUTSIDE", "best(-1, false); best(9, false)"));
        t.holds(begin, "8 WAYS and no more", x -> x.ways(0, "10000000010000000001").see("best(8, true) = 1; best(8, false) = 1; best(7, true) = 3"));
        t.holds(begin, "what was ahead of empty() is no HISTORY", x -> x.see("guesser(2, 1, 1, 0)").ways(3, "1").see("empty() = 1").ways(3, "10")
            .see("best(1, true) = 0; best(1, false) = 0; seen(1, true) = 2; asked(0) = 3"));
        t.holds(begin, "no WAY yet is as WAY 0", x -> x.ways(3, "01").see("best(1, true) = 1; best(8, false) = 1"));
        t.holds("of all or OWN", "OWN is better", x -> x.ways(3, "1").ways(5, "0").ways(3, "0").ways(5, "0").ways(3, "1").ways(5, "0").ways(3, "0")
            .ways(5, "0")
            .see("best(0, true) = 2; best(0, false) = 2; best(1, false) = 2; best(1, true) = 0"));
        t.holds("of all or OWN", "all is better", x -> x.ways(3, "1").ways(5, "1").ways(3, "0").ways(5, "0").ways(3, "0").ways(5, "0").ways(3, "1")
            .ways(5, "1")
            .see("best(0, true) = 4; best(1, false) = 1; best(1, true) = 2"));
        String least = "the least MISSES on THE ROW of any GUESSER that always GUESSES the same with the same PLACE and HISTORY.";
        t.holds(least, "an empty ROW", x -> x.see("best(0, true) = 0; best(0, false) = 0; best(8, true) = 0; best(8, false) = 0"));
        t.holds(least, "the WAY that came less often is missed", x -> x.ways(3, "0001").see("best(0, true) = 1").ways(5, "11101")
            .see("best(0, true) = 2; best(0, false) = 2"));
        t.holds(least, "as often", x -> x.ways(3, "01").see("best(0, true) = 1").ways(3, "10").see("best(0, true) = 2"));
        t.holds(least, "unlike PLACES", x -> x.ways(0, "1").ways(63, "0").ways(0, "1").ways(63, "0").see("best(0, true) = 0; best(0, false) = 0"));
        t.holds(least, "not more than any GUESSER missed", x -> x.see("guesser(1, 6, 0, 0); guesser(3, 8, 2, 0)").ways(9, "1101101101")
            .see("best(0, true) = 3; misses(0, 9) = 4; best(1, true) = 3; best(2, true) = 0; misses(1, 9) = 3"));
        t.everyWordIsQuoted();
    }
}
