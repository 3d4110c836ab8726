/** Promises 24 to 29, sentence by sentence. */
public final class CouldBePromisesTest {
    public static void main(String[] args) {
        best();
        seen();
        often();
        ticks();
        told();
        empty();
        Check.end("CouldBePromisesTest");
    }

    private static void best() {
        Sentences p = new Sentences("Promise 24");
        String words = "THE BEST of a HISTORY of n, OWN or not.";
        p.holds(words, "an empty ROW", x -> x.each(0, 8, "best(#, true) = 0; best(#, false) = 0"));
        p.holds(words, "n 0: OWN or not is the same", x -> x.ways(3, "101010").ways(5, "1").see("best(0, false) = 3; best(0, true) = 3"));
        p.holds(words, "n 1 and more", x -> x.ways(3, "101010").see("best(1, true) = 0; best(1, false) = 0; best(8, true) = 0").ways(3, "0")
            .see("best(0, true) = 3; best(1, true) = 1; best(1, false) = 1; best(2, true) = 1; best(3, true) = 1; best(8, true) = 0"));
        p.holds(words, "OWN and not", x -> x.ways(3, "1").ways(5, "0").ways(3, "0").ways(5, "0").ways(3, "1").ways(5, "0").ways(3, "0")
            .ways(5, "0").see("best(1, true) = 0; best(1, false) = 2; best(2, false) = 0"));
        p.holds(words, "n 8 sees the eighth WAY before", x -> x.ways(0, "1000000000").see("best(8, true) = 1; best(7, false) = 1").ways(0, "1")
            .see("best(8, true) = 1").ways(0, "1").see("best(8, true) = 2; best(0, true) = 3"));
        p.holds(words, "asked twice, and by turns", x -> x.ways(3, "1101").see("best(0, true) = 1; best(2, true) = 0; best(0, true) = 1",
            "best(0, false) = 1; seen(2, true) = 4; best(0, true) = 1"));
        p.holds(words, "a full ROW", x -> x.see("op(0, 10, 0, 0, 0); run(2000); run(1000)").ways(5, "01")
            .see("best(0, true) = 0; best(8, false) = 0"));
        p.holds(words, "a full ROW, as many of both WAYS", x -> x.see("op(0, 11, 1, 0, 0); op(1, 12, 0, 0, 0); register(1, 1); run(1500)",
            "register(1, 0); run(2000); run(1000); told(3) = 3000; best(0, true) = 1500; best(8, true) = 2"));
        p.holds("OUTSIDE.", "-1, 9 and the ends of the ints", x -> x.busy().refused("OUTSIDE", "best(-1, true); best(9, true); best(MIN, true)",
            "best(MAX, true); best(-1, false); best(9, false); best(MIN, false); best(MAX, false)"));
        p.everyWordIsQuoted();
    }

    private static void seen() {
        Sentences p = new Sentences("Promise 25");
        String words = "How many unlike PLACES with HISTORIES of n there are on THE ROW.";
        p.holds(words, "an empty ROW", x -> x.each(0, 8, "seen(#, true) = 0; seen(#, false) = 0"));
        p.holds(words, "n 0: the PLACES", x -> x.ways(3, "101").ways(5, "0").ways(63, "1").ways(0, "0").see("seen(0, true) = 4; seen(0, false) = 4"));
        p.holds(words, "n 1 and 2", x -> x.ways(3, "101010").see("seen(1, true) = 2; seen(1, false) = 2; seen(2, true) = 3; seen(2, false) = 3"));
        p.holds(words, "no WAY yet is as WAY 0", x -> x.ways(3, "000").see("seen(1, true) = 1; seen(8, false) = 1"));
        p.holds(words, "OWN and not", x -> x.ways(3, "1").ways(5, "0").ways(3, "1").ways(5, "0")
            .see("seen(1, false) = 2; seen(1, true) = 3; seen(2, false) = 3; seen(2, true) = 3"));
        p.holds(words, "n 8 and 7", x -> x.ways(0, "1000000000").see("seen(8, true) = 9; seen(8, false) = 9; seen(7, true) = 8; seen(7, false) = 8"));
        p.holds(words, "PLACES apart with the same HISTORY", x -> x.ways(0, "0").ways(63, "0")
            .see("seen(8, true) = 2; seen(8, false) = 2; seen(1, false) = 2"));
        p.holds(words, "from the beginning of THE ROW", x -> x.ways(3, "1").see("empty()").ways(3, "1")
            .see("seen(8, true) = 1; seen(8, false) = 1").ways(3, "0").see("seen(8, true) = 2"));
        p.holds(words, "asked twice", x -> x.ways(3, "1101").see("seen(2, true) = 4; seen(2, true) = 4; seen(0, false) = 1"));
        p.holds(words, "not those that are not kept", x -> x.see("op(0, 10, 0, 0, 0); run(2000); run(1000)").ways(5, "01")
            .see("seen(0, true) = 1; seen(8, true) = 9"));
        p.holds("OUTSIDE.", "-1, 9 and the ends of the ints", x -> x.busy().refused("OUTSIDE", "seen(-1, true); seen(9, true); seen(MIN, true)",
            "seen(MAX, true); seen(-1, false); seen(9, false); seen(MIN, false); seen(MAX, false)"));
        p.everyWordIsQuoted();
    }

    private static void often() {
        Sentences p = new Sentences("Promise 26");
        String words = "How many BRANCHES of THE ROW are at a PLACE with a WAY (-1: both).";
        p.holds(words, "each WAY and both", x -> x.ways(3, "1101").see("often(3, 1) = 3; often(3, 0) = 1; often(3, -1) = 4"));
        p.holds(words, "the ends of the PLACES, and one without", x -> x.ways(63, "0").ways(0, "1")
            .see("often(63, 0) = 1; often(63, 1) = 0; often(0, 1) = 1; often(0, 0) = 0; often(0, -1) = 1; often(1, -1) = 0"));
        p.holds(words, "an emptied ROW", x -> x.ways(3, "110").see("empty(); often(3, -1) = 0; often(3, 1) = 0; often(3, 0) = 0").ways(3, "0")
            .see("often(3, -1) = 1; often(3, 0) = 1"));
        p.holds(words, "a full ROW", x -> x.see("op(0, 10, 0, 0, 0); run(2000); run(2000)").ways(5, "1")
            .see("often(0, 1) = 3000; often(0, -1) = 3000; often(5, -1) = 0"));
        p.holds("UNKNOWN", "-1, 64 and the ends of the ints", x -> x.busy().refused("UNKNOWN", "often(-1, -1); often(64, -1); often(-1, 0)",
            "often(64, 1); often(MIN, 0); often(MAX, 1)"));
        p.holds("OUTSIDE.", "-2, 2 and the ends of the ints", x -> x.busy().refused("OUTSIDE", "often(3, -2); often(3, 2); often(3, MIN)",
            "often(3, MAX)"));
        p.everyWordIsQuoted();
    }

    private static void ticks() {
        Sentences p = new Sentences("Promise 27");
        String step = "TICKS of a GUESSER: a TICK for each STEP that was done ever";
        p.holds(step, "also those ahead of it", x -> x.see("op(0, 10, 0, 0, 0); run(3); guesser(0, 1, 0, 0); ticks(0, 5) = 3; run(4)",
            "ticks(0, 5) = 7; ticks(0, 0) = 7"));
        p.holds(step, "no STEP yet", x -> x.see("guesser(0, 1, 0, 0)").ways(3, "11").see("ticks(0, 100) = 0"));
        p.holds(step, "empty() and fresh() take none away", x -> x.see("op(0, 10, 0, 0, 0); guesser(0, 1, 0, 0); run(5); empty() = 5",
            "ticks(0, 9) = 5; fresh(0) = 5; ticks(0, 9) = 5"));
        String miss = "c (0 to 100) for each MISS.";
        p.holds(miss, "0, 1 and 100", x -> x.see("op(0, 10, 0, 0, 0); run(3); guesser(0, 0, 0, 0); run(4)").ways(5, "10")
            .see("ticks(0, 0) = 7; ticks(0, 1) = 12; ticks(0, 100) = 507; told(1) = 7"));
        p.holds(miss, "the MISSES of now", x -> x.see("guesser(0, 0, 0, 0)").ways(5, "111")
            .see("ticks(0, 10) = 30; fresh(0) = 3; ticks(0, 10) = 0; again(0) = 3; ticks(0, 10) = 30"));
        p.holds(miss, "of that GUESSER", x -> x.see("guesser(0, 0, 0, 0); guesser(0, 1, 0, 0)").ways(5, "110")
            .see("ticks(0, 10) = 20; ticks(1, 10) = 10"));
        p.holds(miss, "many", x -> x.see("guesser(0, 0, 0, 0); op(0, 10, 0, 0, 0)").each(1, 300, "run(2000) = 2000")
            .see("ticks(0, 100) = 60600000; ticks(0, 1) = 1200000"));
        p.holds("UNKNOWN", "no such GUESSER", x -> x.refused("UNKNOWN", "ticks(0, 0)").busy()
            .refused("UNKNOWN", "ticks(8, 0); ticks(-1, 0); ticks(MIN, 0); ticks(MAX, 0)"));
        p.holds("OUTSIDE.", "-1, 101 and the ends of the ints", x -> x.busy().refused("OUTSIDE", "ticks(0, -1); ticks(0, 101); ticks(0, MIN)",
            "ticks(0, MAX)"));
        p.everyWordIsQuoted();
    }

    private static void told() {
        Sentences p = new Sentences("Promise 28");
        p.holds("0 where it stands", "told, run and stopped", x -> x.see("told(0) = 0; stand(63); told(0) = 63; run(5) = 0; told(0) = 63",
            "op(63, 1, 0, 0, 0); run(5) = 1; told(0) = 0"));
        p.holds("1 STEPS ever", "STOP is none", x -> x.see("told(1) = 0; op(0, 1, 0, 0, 0); op(1, 10, 0, 0, 0); run(1); told(1) = 1; run(3)",
            "told(1) = 4; op(0, 0, 0, 0, 0); stand(0); run(9) = 0; told(1) = 4").ways(3, "1").see("empty(); told(1) = 4"));
        p.holds("2 BRANCHES ever", "by STEPS and by hand, emptied or not kept", x -> x.see("told(2) = 0; op(0, 10, 0, 0, 0); run(2000); run(1001)",
            "told(2) = 3001").ways(3, "1").see("told(2) = 3002; empty(); told(2) = 3002").ways(3, "1").see("told(2) = 3003"));
        p.holds("3 kept in THE ROW", "none, some, full, emptied", x -> x.see("told(3) = 0; op(0, 10, 0, 0, 0)").ways(3, "1")
            .see("told(3) = 1; run(2000); told(3) = 2001; run(1999); told(3) = 3000; empty(); told(3) = 0"));
        p.holds("4 GUESSERS.", "0 to 8", x -> x.each(0, 7, "told(4) = #; guesser(1, 0, 0, 0)").see("told(4) = 8")
            .refused("FULL", "guesser(1, 0, 0, 0)").see("told(4) = 8"));
        p.holds("OUTSIDE.", "-1, 5 and the ends of the ints", x -> x.busy().refused("OUTSIDE", "told(-1); told(5); told(MIN); told(MAX)"));
        p.everyWordIsQuoted();
    }

    private static void empty() {
        Sentences p = new Sentences("Promise 29");
        p.holds("THE ROW is emptied", "nothing of it is left", x -> x.busy().see("empty() = 9; told(3) = 0; often(3, -1) = 0; best(0, true) = 0",
            "seen(0, true) = 0; profile(0) = 0; at(0, 0) = UNKNOWN; again(2) = 0; asked(2) = 0"));
        p.holds("THE ROW is emptied", "it is filled from its beginning on", x -> x.ways(3, "11").see("empty() = 2").ways(4, "0")
            .see("told(3) = 1; at(0, 0) = 4; at(0, 1) = 0; at(1, 0) = UNKNOWN"));
        String stays = "(what GUESSERS LEARNED stays)";
        p.holds(stays, "COUNTERS, MISSES, CLASHES", x -> x.see("guesser(1, 0, 0, 0); hint(0, 3, 0)").ways(3, "11").ways(2, "1")
            .see("empty() = 3; asked(0) = 3; misses(0, 3) = 2; inside(0, 0, 0) = 3; clashes(0) = 1; pair(0, 0) = 131")
            .see("hint(0, 3, -1) = 0").ways(3, "1").see("clashes(0) = 2"));
        p.holds(stays, "HISTORY", x -> x.see("guesser(2, 3, 3, 0); guesser(3, 3, 3, 0)").ways(0, "11").see("empty() = 2").ways(0, "1")
            .see("inside(0, 0, 3) = 2; inside(1, 0, 3) = 2"));
        p.holds(stays, "of each KIND", x -> x.busy().see("empty() = 9").each(0, 7, "asked(#) = 9")
            .see("inside(6, 11, 0) = 3; inside(6, 3, 0) = 1; inside(6, 3, 1) = 1; inside(6, 3, 2) = 1; told(4) = 8; back(1, 0) = 7"));
        p.holds(stays, "THE MACHINE, too", x -> x.busy().see("empty() = 9; told(0) = 10; told(1) = 6; told(2) = 9; value(1) = 2; stored(5) = 9",
            "run(4) = 4; told(3) = 2"));
        p.holds("how many BRANCHES it had.", "none", x -> x.see("empty() = 0; empty() = 0"));
        p.holds("how many BRANCHES it had.", "some, then none", x -> x.ways(3, "101").see("empty() = 3; empty() = 0").ways(3, "1")
            .see("empty() = 1"));
        p.holds("how many BRANCHES it had.", "3000 of more", x -> x.see("op(0, 10, 0, 0, 0); run(2000); run(2000); empty() = 3000; empty() = 0",
            "run(2); empty() = 2"));
        p.everyWordIsQuoted();
    }
}
