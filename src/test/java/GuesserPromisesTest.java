/** Promises 11 to 23, sentence by sentence. */
public final class GuesserPromisesTest {
    private static final String NO_SUCH = "no such GUESSER";

    public static void main(String[] args) {
        guesser();
        guess();
        hint();
        profile();
        misses();
        asked();
        clashes();
        pair();
        inside();
        fresh();
        again();
        keep();
        back();
        Check.end("GuesserPromisesTest");
    }

    /** No GUESSER at all, then eight of them and numbers on both sides; G stands for the number. */
    private static void unknownGuesser(Sentences p, String words, String due, String call) {
        p.holds(words, NO_SUCH + ", none at all", x -> x.refused(due, call.replace("G", "0"), call.replace("G", "-1")));
        p.holds(words, NO_SUCH + ", one behind the last", x -> x.see("guesser(1, 0, 0, 0)").refused(due, call.replace("G", "1")));
        p.holds(words, NO_SUCH + ", of eight", x -> x.busy()
            .refused(due, call.replace("G", "-1"), call.replace("G", "8"), call.replace("G", "MIN"), call.replace("G", "MAX")));
    }

    private static void guesser() {
        Sentences p = new Sentences("Promise 11");
        String words = "A GUESSER of a KIND: its number.";
        p.holds(words, "each KIND", x -> x.see("guesser(0, 0, 0, 0) = 0; guesser(1, 0, 0, 0) = 1; guesser(2, 0, 0, 0) = 2; guesser(3, 0, 0, 0) = 3",
            "guesser(4, 1, 1, 0) = 4")
            .see("guesser(5, 0, 1, 0) = 5; guesser(6, 1, 0, 0) = 6; guesser(7, 0, 0, 0) = 7; told(4) = 8"));
        p.holds(words, "it has LEARNED nothing yet", x -> x.ways(3, "11").see("guesser(1, 0, 0, 0) = 0; asked(0) = 0; misses(0, -1) = 0",
            "inside(0, 0, 0) = 1; clashes(0) = 0; hint(0, 3, -1) = -1; back(0, 0) = UNKNOWN"));
        String chooser = "UNKNOWN: a, b of KIND 7";
        p.holds(chooser, "no GUESSER at all", x -> x.refused("UNKNOWN", "guesser(7, 0, 0, 0); guesser(7, -1, -1, 0)"));
        p.holds(chooser, "a", x -> x.see("guesser(1, 0, 0, 0)").refused("UNKNOWN", "guesser(7, 1, 0, 0); guesser(7, -1, 0, 0)",
            "guesser(7, MIN, 0, 0); guesser(7, MAX, 0, 0)").see("guesser(7, 0, 0, 0) = 1"));
        p.holds(chooser, "b", x -> x.see("guesser(1, 0, 0, 0)").refused("UNKNOWN", "guesser(7, 0, 1, 0); guesser(7, 0, -1, 0)",
            "guesser(7, 0, MIN, 0); guesser(7, 0, MAX, 0)").see("guesser(7, 0, 0, 0) = 1"));
        p.holds("OUTSIDE: KIND", "-1, 8 and the ends of the ints", x -> x.see("guesser(1, 0, 0, 0)")
            .refused("OUTSIDE", "guesser(-1, 0, 0, 0); guesser(8, 0, 0, 0); guesser(MIN, 0, 0, 0); guesser(MAX, 0, 0, 0)"));
        numbersOfKinds(p);
        String full = "FULL.";
        p.holds(full, "eight there are", x -> x.each(0, 7, "guesser(1, 0, 0, 0) = #").refused("FULL", "guesser(0, 0, 0, 0); guesser(1, 6, 0, 0)",
            "guesser(7, 0, 7, 6)").see("told(4) = 8"));
        p.holds(full, "seven there are", x -> x.each(0, 6, "guesser(1, 0, 0, 0) = #").see("guesser(7, 6, 0, 6) = 7; guesser(7, 6, 0, 6) = FULL"));
        String others = "(Others of a, b, c do not matter.)";
        for (String any : new String[] {"MIN", "MAX", "-1"}) {
            p.holds(others, "they are " + any,
                x -> x.see("guesser(0, 2, N, N) = 0; guesser(1, 6, N, N) = 1".replace("N", any))
                    .see("guesser(2, 8, 8, N) = 2; guesser(4, 7, 4, N) = 3; guesser(6, 3, N, N) = 4".replace("N", any)));
        }
        p.holds(others, "they change nothing", x -> x.see("guesser(1, 2, 8, 50); guesser(1, 2, 0, 0); guesser(2, 3, 2, 1); guesser(2, 3, 2, 0)")
            .ways(5, "1101").each(0, 3, "inside(0, 0, #)")
            .see("inside(0, 0, 1) = 3; inside(1, 0, 1) = 3; inside(2, 0, 5) = 2; inside(3, 0, 5) = 2; inside(2, 0, 7) = 2; inside(3, 0, 7) = 2"));
        p.everyWordIsQuoted();
    }

    /** For each number that a KIND has: one too small, one too large, both ends of the ints. */
    private static void numbersOfKinds(Sentences p) {
        String[][] limits = {{"guesser(0, #, 0, 0)", "0", "2"}, {"guesser(1, #, 0, 0)", "0", "6"},
            {"guesser(2, #, 0, 0)", "0", "8"}, {"guesser(2, 0, #, 0)", "0", "8"}, {"guesser(3, #, 0, 0)", "0", "8"},
            {"guesser(3, 0, #, 0)", "0", "8"}, {"guesser(3, 0, 0, #)", "0", "1"}, {"guesser(4, #, 1, 0)", "1", "7"},
            {"guesser(4, 1, #, 0)", "1", "4"}, {"guesser(5, #, 1, 0)", "0", "4"}, {"guesser(5, 0, #, 0)", "1", "8"},
            {"guesser(5, 0, 1, #)", "0", "50"}, {"guesser(6, #, 0, 0)", "1", "3"}, {"guesser(7, 0, 0, #)", "0", "6"}};
        for (String[] limit : limits) {
            String call = limit[0], below = "" + (Integer.parseInt(limit[1]) - 1), above = "" + (Integer.parseInt(limit[2]) + 1);
            p.holds("what it has of a, b, c", call, x -> x.see("guesser(0, 0, 0, 0)")
                .refused("OUTSIDE", call.replace("#", below), call.replace("#", above), call.replace("#", "MIN"), call.replace("#", "MAX"))
                .see(call.replace("#", limit[1]) + " = 1", call.replace("#", limit[2]) + " = 2"));
        }
    }

    private static void guess() {
        Sentences p = new Sentences("Promise 12");
        String words = "What it would GUESS now at a PLACE.";
        p.holds(words, "the first and the last PLACE", x -> x.see("guesser(1, 6, 0, 0); guess(0, 0) = 0; guess(0, 63) = 0").ways(63, "1")
            .see("guess(0, 63) = 1; guess(0, 0) = 0"));
        p.holds(words, "now: by what it LEARNED", x -> x.see("guesser(1, 0, 0, 0)").guesses(0, 3, "1100", "0111")
            .see("guess(0, 3) = 0; guess(0, 9) = 0"));
        p.holds(words, "with a HINT", x -> x.see("guesser(1, 6, 0, 0); hint(0, 63, 1); guess(0, 63) = 1; hint(0, 63, -1); guess(0, 63) = 0"));
        p.holds(words, "a CHOOSER: by what those would GUESS now", x -> x.see("guesser(1, 6, 0, 0); guesser(0, 1, 0, 0); guesser(7, 0, 1, 6)")
            .ways(3, "11").see("guess(2, 3) = 1; guess(2, 4) = 0; hint(0, 4, 1); guess(2, 4) = 1"));
        p.holds(words, "it is not asked by that", x -> x.see("guesser(1, 0, 0, 0)").ways(3, "1")
            .see("guess(0, 5); guess(0, 3); asked(0) = 1; misses(0, -1) = 1; clashes(0) = 0; inside(0, 0, 0) = 2; told(2) = 1; told(3) = 1"));
        unknownGuesser(p, "UNKNOWN.", "UNKNOWN", "guess(G, 0)");
        p.holds("UNKNOWN.", "no such PLACE", x -> x.busy().refused("UNKNOWN", "guess(0, -1); guess(0, 64); guess(7, MIN); guess(7, MAX)",
            "guess(8, 64)"));
        p.everyWordIsQuoted();
    }

    private static void hint() {
        Sentences p = new Sentences("Promise 13");
        String words = "A HINT (-1: none): which there was (-1).";
        p.holds(words, "none, 1, 0, the same, none again", x -> x.see("guesser(1, 6, 0, 0); hint(0, 3, 1) = -1; hint(0, 3, 0) = 1",
            "hint(0, 3, 0) = 0; hint(0, 3, -1) = 0; hint(0, 3, -1) = -1; guess(0, 3) = 0"));
        p.holds(words, "the first and the last PLACE", x -> x.see("guesser(1, 6, 0, 0); hint(0, 0, 1) = -1; hint(0, 63, 0) = -1; hint(0, 0, -1) = 1",
            "hint(0, 63, -1) = 0; hint(0, 1, -1) = -1"));
        p.holds(words, "of each GUESSER its own", x -> x.see("guesser(0, 0, 0, 0); guesser(0, 0, 0, 0); hint(0, 3, 1) = -1; hint(1, 3, 0) = -1",
            "guess(0, 3) = 1; guess(1, 3) = 0; hint(0, 3, -1) = 1"));
        p.holds(words, "it counts from the next BRANCH on", x -> x.see("guesser(0, 0, 0, 0)").ways(3, "1").see("hint(0, 3, 1); misses(0, 3) = 1")
            .ways(3, "1").see("misses(0, 3) = 1; hint(0, 3, -1) = 1").ways(3, "1").see("misses(0, 3) = 2"));
        unknownGuesser(p, "UNKNOWN", "UNKNOWN", "hint(G, 3, 0)");
        p.holds("UNKNOWN", "no such PLACE", x -> x.busy().refused("UNKNOWN", "hint(0, -1, 0); hint(0, 64, 0); hint(7, MIN, -1); hint(7, MAX, 1)"));
        p.holds("OUTSIDE.", "-2, 2 and the ends of the ints", x -> x.busy().refused("OUTSIDE", "hint(1, 3, -2); hint(1, 3, 2); hint(1, 3, MIN)",
            "hint(1, 3, MAX)").see("hint(1, 3, -1) = 1"));
        p.everyWordIsQuoted();
    }

    private static void profile() {
        Sentences p = new Sentences("Promise 14");
        String words = "HINTS by THE ROW, for each PLACE that has a BRANCH there: the WAY that came more often (1, if as often)";
        p.holds(words, "1 more often", x -> x.see("guesser(0, 0, 0, 0)").ways(3, "110").see("profile(0) = 1; guess(0, 3) = 1; hint(0, 3, -1) = 1"));
        p.holds(words, "0 more often", x -> x.see("guesser(0, 1, 0, 0)").ways(3, "001").see("profile(0) = 1; guess(0, 3) = 0; hint(0, 3, -1) = 0"));
        p.holds(words, "as often", x -> x.see("guesser(0, 0, 0, 0)").ways(3, "01").ways(4, "10")
            .see("profile(0) = 2; hint(0, 3, -1) = 1; hint(0, 4, -1) = 1"));
        p.holds(words, "one BRANCH alone", x -> x.see("guesser(0, 0, 0, 0)").ways(0, "0").ways(63, "1")
            .see("profile(0) = 2; hint(0, 0, -1) = 0; hint(0, 63, -1) = 1"));
        p.holds(words, "by what is kept of a full ROW", x -> x.see("op(0, 10, 0, 0, 0); guesser(0, 0, 0, 0); run(2000); run(1000)").ways(5, "1")
            .see("profile(0) = 1; hint(0, 5, -1) = -1; hint(0, 0, -1) = 1"));
        p.holds(words, "of that GUESSER alone", x -> x.see("guesser(0, 0, 0, 0); guesser(0, 0, 0, 0)").ways(3, "1")
            .see("profile(0) = 1; hint(1, 3, -1) = -1; guess(1, 3) = 0"));
        p.holds(words, "of BRANCHES ahead of it", x -> x.ways(3, "1").see("guesser(0, 0, 0, 0); profile(0) = 1; guess(0, 3) = 1; asked(0) = 0"));
        p.holds("for others none", "HINTS there are taken away", x -> x.see("guesser(0, 0, 0, 0); hint(0, 9, 1); hint(0, 3, 0)").ways(3, "1")
            .see("profile(0) = 1; hint(0, 9, -1) = -1; hint(0, 3, -1) = 1"));
        p.holds("for others none", "an empty ROW", x -> x.see("guesser(0, 0, 0, 0); hint(0, 0, 1); hint(0, 63, 0); profile(0) = 0",
            "hint(0, 0, -1) = -1; hint(0, 63, -1) = -1"));
        p.holds("for others none", "what was emptied", x -> x.see("guesser(0, 0, 0, 0)").ways(3, "1").see("profile(0) = 1; empty()").ways(8, "1")
            .see("profile(0) = 1; hint(0, 3, -1) = -1; hint(0, 8, -1) = 1"));
        p.holds("how many there are.", "none", x -> x.see("guesser(0, 0, 0, 0); profile(0) = 0"));
        p.holds("how many there are.", "four, and again", x -> x.see("guesser(0, 0, 0, 0)").ways(3, "110").ways(5, "001").ways(7, "01")
            .ways(63, "0").see("profile(0) = 4; profile(0) = 4"));
        p.holds("how many there are.", "all 64", x -> x.see("guesser(0, 0, 0, 0)").each(0, 63, "branch(#, 1)").see("profile(0) = 64"));
        unknownGuesser(p, "UNKNOWN.", "UNKNOWN", "profile(G)");
        p.everyWordIsQuoted();
    }

    private static void misses() {
        Sentences p = new Sentences("Promise 15");
        String words = "MISSES of a GUESSER, at a PLACE (-1: all).";
        p.holds(words, "none yet", x -> x.see("guesser(0, 0, 0, 0); misses(0, -1) = 0; misses(0, 0) = 0; misses(0, 63) = 0").ways(3, "0")
            .see("misses(0, -1) = 0; misses(0, 3) = 0"));
        p.holds(words, "several PLACES and all", x -> x.see("guesser(0, 0, 0, 0)").ways(3, "1101").ways(63, "01").ways(0, "1")
            .see("misses(0, -1) = 5; misses(0, 3) = 3; misses(0, 63) = 1; misses(0, 0) = 1; misses(0, 4) = 0"));
        p.holds(words, "of each GUESSER its own", x -> x.see("guesser(0, 0, 0, 0)").ways(3, "1").see("guesser(0, 1, 0, 0)").ways(3, "10")
            .see("misses(0, 3) = 2; misses(1, 3) = 1; misses(1, -1) = 1"));
        p.holds(words, "with a HINT", x -> x.see("guesser(0, 0, 0, 0); hint(0, 3, 1)").ways(3, "10").see("misses(0, 3) = 1; misses(0, -1) = 1"));
        unknownGuesser(p, "UNKNOWN.", "UNKNOWN", "misses(G, -1); misses(G, 0)");
        p.holds("UNKNOWN.", "no such PLACE", x -> x.busy().refused("UNKNOWN", "misses(0, 64); misses(0, -2); misses(0, MIN); misses(0, MAX)"));
        p.everyWordIsQuoted();
    }

    private static void asked() {
        Sentences p = new Sentences("Promise 16");
        String words = "How many BRANCHES it was asked.";
        p.holds(words, "none yet", x -> x.ways(3, "11").see("guesser(0, 0, 0, 0); asked(0) = 0"));
        p.holds(words, "by hand and by STEPS", x -> x.see("guesser(0, 0, 0, 0)").ways(3, "11")
            .see("guesser(6, 1, 0, 0); op(0, 10, 0, 0, 0); run(3); asked(0) = 5; asked(1) = 3"));
        p.holds(words, "with a HINT", x -> x.see("guesser(0, 0, 0, 0); hint(0, 3, 1)").ways(3, "11").see("asked(0) = 2"));
        p.holds(words, "more than are kept, and emptied ones", x -> x.see("guesser(0, 0, 0, 0); op(0, 10, 0, 0, 0); run(2000); run(2000)",
            "asked(0) = 4000; empty(); asked(0) = 4000"));
        p.holds(words, "a CHOOSER, though both are alike", x -> x.see("guesser(0, 0, 0, 0); guesser(7, 0, 0, 0)").ways(3, "11").see("asked(1) = 2"));
        unknownGuesser(p, "UNKNOWN.", "UNKNOWN", "asked(G)");
        p.everyWordIsQuoted();
    }

    private static void clashes() {
        Sentences p = new Sentences("Promise 17");
        p.holds("CLASHES of a GUESSER.", "none yet", x -> x.see("guesser(1, 0, 0, 0); clashes(0) = 0").ways(3, "11").see("clashes(0) = 0"));
        p.holds("CLASHES of a GUESSER.", "the same PAIR more than once", x -> x.see("guesser(1, 0, 0, 0)").ways(3, "1").ways(5, "1").ways(3, "1")
            .ways(5, "1").see("clashes(0) = 3"));
        p.holds("CLASHES of a GUESSER.", "more than are kept as PAIRS", x -> x.see("guesser(1, 0, 0, 0)").each(0, 63, "branch(#, 1)")
            .see("clashes(0) = 63"));
        unknownGuesser(p, "UNKNOWN", "UNKNOWN", "clashes(G)");
        p.holds("NO: it has a KIND without.", "KINDS 0, 4 and 6", x -> x.busy().refused("NO", "clashes(0); clashes(4); clashes(6)"));
        p.holds("NO: it has a KIND without.", "the other KINDS have them", x -> x.see("guesser(1, 0, 0, 0); guesser(2, 0, 0, 0)",
            "guesser(3, 0, 0, 0); guesser(5, 0, 1, 0); guesser(7, 0, 0, 0)").each(0, 4, "clashes(#) = 0")
            .ways(1, "1").ways(2, "1").each(0, 4, "clashes(#) = 1"));
        p.everyWordIsQuoted();
    }

    private static void pair() {
        Sentences p = new Sentences("Promise 18");
        String words = "PAIR i of its CLASHES, each once, as they came first (40 kept)";
        p.holds(words, "each once", x -> x.see("guesser(1, 0, 0, 0)").ways(3, "1").ways(5, "1").ways(3, "1").ways(5, "1")
            .see("pair(0, 0) = 197; pair(0, 1) = NONE"));
        p.holds(words, "as they came first", x -> x.see("guesser(1, 0, 0, 0)").ways(9, "1").ways(5, "1").ways(3, "1").ways(5, "1").ways(9, "1")
            .see("pair(0, 0) = 329; pair(0, 1) = 197; pair(0, 2) = NONE"));
        p.holds(words, "the fortieth is kept, the next one is not", x -> x.see("guesser(1, 0, 0, 0)").each(0, 40, "branch(#, 1)")
            .see("clashes(0) = 40; pair(0, 39) = 2536; pair(0, 40) = NONE").ways(41, "1")
            .see("clashes(0) = 41; pair(0, 39) = 2536; pair(0, 40) = NONE"));
        p.holds(words, "one that came when 40 were kept is never kept", x -> x.see("guesser(1, 0, 0, 0)").each(0, 63, "branch(#, 1)").ways(62, "1")
            .ways(1, "1").see("clashes(0) = 65; pair(0, 0) = 1; pair(0, 39) = 2536; pair(0, 40) = NONE; pair(0, 63) = NONE"));
        String number = "64 times the lesser PLACE and the greater one";
        p.holds(number, "the greater one came last", x -> x.see("guesser(1, 0, 0, 0)").ways(0, "1").ways(63, "1").see("pair(0, 0) = 63"));
        p.holds(number, "the greater one came first", x -> x.see("guesser(1, 0, 0, 0)").ways(63, "1").ways(62, "1").see("pair(0, 0) = 4031"));
        p.holds(number, "1 and 0", x -> x.see("guesser(1, 0, 0, 0)").ways(1, "1").ways(0, "1").see("pair(0, 0) = 1"));
        p.holds("NONE.", "no CLASH yet", x -> x.see("guesser(1, 0, 0, 0); pair(0, 0) = NONE").ways(3, "11").refused("NONE", "pair(0, 0)"));
        p.holds("NONE.", "one behind the last, one below 0, the ends of the ints", x -> x.see("guesser(1, 0, 0, 0)").ways(3, "1").ways(5, "1")
            .see("pair(0, 0) = 197").refused("NONE", "pair(0, 1); pair(0, -1); pair(0, 39); pair(0, 40); pair(0, MIN); pair(0, MAX)"));
        unknownGuesser(p, "UNKNOWN", "UNKNOWN", "pair(G, 0); pair(G, -1)");
        p.holds("NO.", "KINDS 0, 4 and 6, whatever i is", x -> x.busy().refused("NO", "pair(0, 0); pair(4, 0); pair(6, 0); pair(0, -1); pair(4, 40)",
            "pair(6, MAX)"));
        p.everyWordIsQuoted();
    }

    private static void inside() {
        Sentences p = new Sentences("Promise 19");
        String all = "guesser(0, 1, 0, 0); guesser(1, 1, 0, 0); guesser(2, 2, 0, 0); guesser(3, 2, 0, 0); guesser(4, 2, 1, 0); "
            + "guesser(5, 1, 2, 0); guesser(6, 1, 0, 0); guesser(7, 1, 2, 2)";
        String counter = "COUNTER i of a table (0 but of KIND 4: 0 to 2)";
        p.holds(counter, "KINDS 1, 2, 3 and 7", x -> x.see(all).see("inside(1, 0, 0) = 1; inside(1, 0, 1) = 1; inside(2, 0, 3) = 1",
            "inside(3, 0, 3) = 1; inside(7, 0, 3) = 1").ways(1, "1")
            .see("inside(1, 0, 1) = 2; inside(2, 0, 1) = 2; inside(3, 0, 0) = 2; inside(7, 0, 1) = 1; inside(1, 0, 0) = 1"));
        p.holds(counter, "KIND 4, each table", x -> x.see(all).ways(1, "1").see("inside(4, 0, 1) = 2; inside(4, 1, 1) = 2; inside(4, 2, 1) = 2",
            "inside(4, 0, 0) = 1; inside(4, 2, 3) = 1"));
        p.holds("or weight i of row t of KIND 5", "each row", x -> x.see(all).see("inside(5, 0, 0) = 0; inside(5, 1, 2) = 0").ways(1, "0")
            .see("inside(5, 1, 0) = -1; inside(5, 1, 1) = 1; inside(5, 1, 2) = 1; inside(5, 0, 0) = 0; inside(5, 0, 2) = 0"));
        String loops = "of KIND 6 i = 0, 1, 2 the count, the last one, TRUST of PLACE t.";
        p.holds(loops, "all three", x -> x.see(all).ways(63, "11010101").see("inside(6, 63, 0) = 1; inside(6, 63, 1) = 1; inside(6, 63, 2) = 1",
            "inside(6, 62, 0) = 0; inside(6, 62, 1) = -1; inside(6, 62, 2) = 0"));
        unknownGuesser(p, "UNKNOWN: also no such table, place in it (-1000).", "-1000", "inside(G, 0, 0)");
        int[] tables = {0, 1, 1, 1, 3, 2, 64, 1}, widths = {0, 2, 4, 4, 4, 3, 3, 4};
        for (int g = 1; g < 8; g++) {
            String in = "inside(" + g + ", ";
            int lastTable = tables[g] - 1, lastPlace = widths[g] - 1, t = tables[g], w = widths[g];
            p.holds("UNKNOWN: also no such table, place in it (-1000).", "no such table of KIND " + g, x -> x.see(all)
                .refused("-1000", in + "-1, 0)", in + t + ", 0)", in + "MIN, 0)", in + "MAX, 0)",
                in + "1073741824, 0)", in + "1431655766, 0)"));
            p.holds("UNKNOWN: also no such table, place in it (-1000).", "no such place in it of KIND " + g, x -> x.see(all)
                .refused("-1000", in + "0, -1)", in + "0, " + w + ")", in + lastTable + ", " + w + ")",
                in + "0, MIN)", in + "0, MAX)", in + "-1, " + lastPlace + ")"));
        }
        p.holds("NO (-1001): FIXED.", "whatever table and place", x -> x.see("guesser(0, 0, 0, 0); guesser(0, 1, 0, 0); guesser(0, 2, 0, 0)")
            .refused("-1001", "inside(0, 0, 0); inside(1, 0, 0); inside(2, 0, 0)",
            "inside(0, 3, 1); inside(0, -1, 0); inside(0, 0, -1); inside(0, MIN, MAX); inside(2, MAX, MIN)").refused("-1000", "inside(3, 0, 0)"));
        p.everyWordIsQuoted();
    }

    private static void fresh() {
        Sentences p = new Sentences("Promise 20");
        String words = "All that it LEARNED, its MISSES and CLASHES are as at first";
        p.holds(words, "COUNTERS", x -> x.see("guesser(1, 6, 0, 0)").ways(3, "11").ways(63, "0")
            .see("fresh(0) = 3; inside(0, 0, 3) = 1; inside(0, 0, 63) = 1; guess(0, 3) = 0"));
        p.holds(words, "HISTORY", x -> x.see("guesser(2, 3, 3, 0)").ways(0, "11").see("fresh(0) = 2; inside(0, 0, 0) = 1").ways(0, "1")
            .see("inside(0, 0, 0) = 2; inside(0, 0, 3) = 1"));
        p.holds(words, "OWN HISTORY", x -> x.see("guesser(3, 3, 3, 0)").ways(5, "11").see("fresh(0) = 2; inside(0, 0, 0) = 1").ways(5, "1")
            .see("inside(0, 0, 0) = 2; inside(0, 0, 3) = 1"));
        p.holds(words, "VOTES", x -> x.see("guesser(4, 3, 1, 0)").ways(0, "111").see("fresh(0) = 3; inside(0, 0, 0) = 1; inside(0, 1, 1) = 1",
            "inside(0, 2, 3) = 1").ways(0, "1").see("inside(0, 1, 0) = 2; inside(0, 2, 0) = 2"));
        p.holds(words, "WEIGHTS", x -> x.see("guesser(5, 0, 2, 9)").ways(0, "101").see("fresh(0) = 3").each(0, 2, "inside(0, 0, #) = 0")
            .ways(0, "1").see("inside(0, 0, 0) = 1; inside(0, 0, 1) = -1; inside(0, 0, 2) = -1"));
        p.holds(words, "LOOPS", x -> x.see("guesser(6, 1, 0, 0)").ways(4, "1010").ways(63, "1")
            .see("fresh(0) = 5; inside(0, 4, 0) = 0; inside(0, 4, 1) = -1; inside(0, 4, 2) = 0; inside(0, 63, 0) = 0"));
        p.holds(words, "a CHOOSER, and not those that it asks", x -> x.see("guesser(1, 0, 0, 0); guesser(0, 1, 0, 0); guesser(7, 0, 1, 0)")
            .ways(3, "1").see("fresh(2) = 1; inside(2, 0, 0) = 1; asked(2) = 0; asked(0) = 1; inside(0, 0, 0) = 2; misses(0, 3) = 1"));
        p.holds(words, "MISSES", x -> x.see("guesser(0, 0, 0, 0)").ways(3, "11").ways(63, "1")
            .see("fresh(0) = 3; misses(0, -1) = 0; misses(0, 3) = 0; misses(0, 63) = 0; asked(0) = 0"));
        p.holds(words, "CLASHES and PAIRS", x -> x.see("guesser(1, 0, 0, 0)").ways(3, "1").ways(5, "1")
            .see("fresh(0) = 2; clashes(0) = 0; pair(0, 0) = NONE").ways(9, "1").see("clashes(0) = 0; pair(0, 0) = NONE").ways(5, "1")
            .see("clashes(0) = 1; pair(0, 0) = 329"));
        p.holds(words, "of that GUESSER alone", x -> x.busy().see("fresh(1) = 9").each(2, 7, "asked(#) = 9")
            .see("asked(0) = 9; asked(1) = 0; told(2) = 9; told(3) = 9; misses(0, -1)"));
        p.holds("HINTS stay", "and count", x -> x.see("guesser(0, 0, 0, 0); hint(0, 3, 1); hint(0, 63, 0)").ways(3, "1")
            .see("fresh(0) = 1; guess(0, 3) = 1").ways(3, "0").see("misses(0, 3) = 1; hint(0, 3, -1) = 1; hint(0, 63, -1) = 0"));
        p.holds("how many BRANCHES it had been asked.", "none", x -> x.see("guesser(0, 0, 0, 0); fresh(0) = 0; fresh(0) = 0"));
        p.holds("how many BRANCHES it had been asked.", "some, then none, then some", x -> x.see("guesser(0, 0, 0, 0)").ways(3, "101")
            .see("fresh(0) = 3; fresh(0) = 0").ways(3, "1").see("fresh(0) = 1"));
        unknownGuesser(p, "UNKNOWN.", "UNKNOWN", "fresh(G)");
        p.everyWordIsQuoted();
    }

    private static void again() {
        Sentences p = new Sentences("Promise 21");
        String words = "It is made fresh(), then it GUESSES and LEARNS all of THE ROW: its MISSES.";
        p.holds(words, "BRANCHES ahead of it, too", x -> x.ways(3, "11").see("guesser(1, 0, 0, 0)").ways(5, "11")
            .see("misses(0, -1) = 1; asked(0) = 2; again(0) = 1; asked(0) = 4; misses(0, 3) = 1; misses(0, 5) = 0; inside(0, 0, 0) = 3",
            "clashes(0) = 1; pair(0, 0) = 197"));
        p.holds(words, "twice gives the same", x -> x.see("guesser(2, 4, 4, 0)").ways(3, "1101101")
            .see("again(0) = 4; again(0) = 4; misses(0, -1) = 4; asked(0) = 7"));
        p.holds(words, "an empty ROW", x -> x.see("guesser(1, 0, 0, 0)").ways(3, "11").see("empty(); again(0) = 0; asked(0) = 0",
            "inside(0, 0, 0) = 1; misses(0, 3) = 0"));
        p.holds(words, "a full ROW, and no more than it", x -> x.see("guesser(0, 0, 0, 0); op(0, 10, 0, 0, 0); run(2000); run(2000)",
            "misses(0, -1) = 4000; again(0) = 3000; asked(0) = 3000; misses(0, 0) = 3000"));
        p.holds(words, "HINTS of now", x -> x.see("guesser(1, 0, 0, 0)").ways(3, "111").see("misses(0, 3) = 1; hint(0, 3, 0); again(0) = 3",
            "hint(0, 3, 1); again(0) = 0; inside(0, 0, 0) = 3"));
        p.holds(words, "the others are not asked", x -> x.see("guesser(1, 0, 0, 0); guesser(1, 0, 0, 0)").ways(3, "11")
            .see("again(1) = 1; asked(0) = 2; told(2) = 2; told(3) = 2; fresh(0) = 2; again(1) = 1; asked(0) = 0"));
        p.holds(words, "what is kept stays", x -> x.see("guesser(1, 0, 0, 0)").ways(3, "1").see("keep(0, 0)").ways(3, "1")
            .see("again(0) = 1; back(0, 0) = 1; inside(0, 0, 0) = 2"));
        String chooser = "A CHOOSER: those that it asks, and all that these ask, too, by numbers.";
        String six = "guesser(1, 6, 0, 0); guesser(0, 1, 0, 0); guesser(0, 0, 0, 0); guesser(7, 0, 1, 6); guesser(7, 3, 2, 0); guesser(7, 2, 1, 0)";
        p.holds(chooser, "those that it asks, and no others", x -> x.see(six).ways(3, "110").each(0, 5, "fresh(#) = 3")
            .see("again(3) = 2; asked(0) = 3; asked(1) = 3; asked(2) = 0; asked(3) = 3; asked(4) = 0; asked(5) = 0")
            .see("misses(0, -1) = 2; misses(1, -1) = 1; inside(3, 0, 3) = 2; inside(0, 0, 3) = 2"));
        p.holds(chooser, "all that these ask", x -> x.see(six).ways(3, "110").each(0, 5, "fresh(#) = 3")
            .see("again(4) = 2; asked(0) = 3; asked(1) = 3; asked(2) = 3; asked(3) = 3; asked(4) = 3; asked(5) = 0; misses(2, 3) = 2",
            "inside(3, 0, 3) = 2; inside(4, 0, 0) = 1"));
        p.holds(chooser, "these are made fresh(), too", x -> x.see("guesser(1, 0, 0, 0); guesser(0, 1, 0, 0); guesser(7, 0, 1, 0)").ways(3, "111")
            .see("again(2) = 1; asked(0) = 3; misses(0, 3) = 1; inside(0, 0, 0) = 3; asked(1) = 3"));
        p.holds(chooser, "that asks one twice", x -> x.see("guesser(1, 0, 0, 0); guesser(7, 0, 0, 0); guesser(7, 1, 0, 0)").ways(3, "11")
            .see("again(2) = 1; asked(0) = 2; asked(1) = 2; inside(0, 0, 0) = 3"));
        p.holds(chooser, "one that a CHOOSER asks does not ask it", x -> x.see("guesser(1, 0, 0, 0); guesser(7, 0, 0, 0)").ways(3, "11")
            .see("fresh(1) = 2; again(0) = 1; asked(1) = 0; asked(0) = 2"));
        p.holds(chooser, "seven deep", x -> x.see("guesser(1, 0, 0, 0); guesser(7, 0, 0, 0); guesser(7, 1, 0, 0); guesser(7, 2, 0, 0)",
            "guesser(7, 3, 0, 0); guesser(7, 4, 0, 0); guesser(7, 5, 0, 0); guesser(7, 6, 0, 0)")
            .ways(3, "11").each(0, 7, "fresh(#) = 2").see("again(7) = 1").each(0, 7, "asked(#) = 2; misses(#, 3) = 1"));
        unknownGuesser(p, "UNKNOWN.", "UNKNOWN", "again(G)");
        p.everyWordIsQuoted();
    }

    private static void keep() {
        Sentences p = new Sentences("Promise 22");
        String words = "All that fresh() takes away is kept at place k (0, 1) of a GUESSER: 1.";
        p.holds(words, "both places", x -> x.see("guesser(1, 0, 0, 0)").ways(3, "11").see("keep(0, 0) = 1").ways(5, "000")
            .see("keep(0, 1) = 1; fresh(0) = 5; back(0, 0) = 2; inside(0, 0, 0) = 3; misses(0, 5) = 0; back(0, 1) = 5; inside(0, 0, 0) = 0",
            "misses(0, 5) = 2; misses(0, -1) = 3; clashes(0) = 1"));
        p.holds(words, "kept anew", x -> x.see("guesser(1, 0, 0, 0)").ways(3, "1").see("keep(0, 0) = 1").ways(3, "1")
            .see("keep(0, 0) = 1; fresh(0) = 2; back(0, 0) = 2; inside(0, 0, 0) = 3"));
        p.holds(words, "nothing LEARNED yet", x -> x.see("guesser(1, 0, 0, 0); keep(0, 1) = 1").ways(3, "1")
            .see("back(0, 1) = 0; inside(0, 0, 0) = 1; asked(0) = 0"));
        p.holds(words, "of each GUESSER its own", x -> x.see("guesser(1, 0, 0, 0); guesser(1, 0, 0, 0)").ways(3, "1")
            .see("keep(0, 0) = 1; back(1, 0) = UNKNOWN").ways(3, "1").see("keep(1, 0) = 1; back(0, 0) = 1; asked(1) = 2"));
        p.holds(words, "it goes on as it is", x -> x.busy().see("keep(2, 0) = 1; asked(2) = 9; misses(2, -1)").ways(3, "1").see("asked(2) = 10"));
        p.holds(words, "HINTS are not kept", x -> x.see("guesser(0, 0, 0, 0); hint(0, 3, 1); keep(0, 0) = 1; hint(0, 3, 0); back(0, 0) = 0",
            "hint(0, 3, -1) = 0; back(0, 0) = 0; hint(0, 3, -1) = -1"));
        String each = "guesser(2, 3, 3, 0); guesser(3, 3, 3, 0); guesser(4, 3, 1, 0); guesser(5, 0, 2, 9); guesser(6, 1, 0, 0); "
            + "guesser(0, 0, 0, 0); guesser(7, 5, 4, 0); guesser(0, 2, 0, 0)";
        p.holds(words, "of each KIND, with its HISTORY", x -> x.see(each).ways(0, "11").each(0, 7, "keep(#, 1) = 1").ways(0, "0101").ways(9, "1")
            .each(0, 7, "back(#, 1) = 2; asked(#) = 2; misses(#, 9) = 0")
            .see("inside(0, 0, 0) = 2; inside(0, 0, 1) = 2; inside(0, 0, 3) = 1; inside(1, 0, 3) = 1; inside(2, 0, 0) = 3; inside(2, 1, 1) = 2",
                "inside(2, 2, 3) = 1; inside(3, 0, 0) = 2; inside(3, 0, 1) = 0; inside(3, 0, 2) = -2")
            .see("inside(4, 0, 0) = 2; inside(4, 0, 1) = -1; inside(6, 0, 0) = 3").ways(0, "1")
                .see("inside(0, 0, 3) = 2; inside(1, 0, 3) = 2; inside(2, 2, 3) = 2; inside(3, 0, 0) = 3; inside(3, 0, 1) = 1; inside(3, 0, 2) = -1",
                "inside(4, 0, 0) = 3"));
        p.holds(words, "CLASHES, PAIRS and where a COUNTER was asked last", x -> x.see("guesser(1, 0, 0, 0)").ways(3, "1").ways(5, "1")
            .see("keep(0, 0) = 1").ways(9, "1").see("clashes(0) = 2; pair(0, 1) = 329; back(0, 0) = 2; clashes(0) = 1; pair(0, 0) = 197",
            "pair(0, 1) = NONE")
            .ways(5, "1").see("clashes(0) = 1").ways(4, "1").see("clashes(0) = 2; pair(0, 1) = 261"));
        p.holds(words, "PAIRS, behind which there were others", x -> x.see("guesser(1, 0, 0, 0)").ways(3, "1").ways(5, "1")
            .see("keep(0, 0) = 1; fresh(0) = 2")
            .ways(8, "1").ways(7, "1").see("pair(0, 0) = 456; back(0, 0) = 2; pair(0, 0) = 197; pair(0, 1) = NONE"));
        unknownGuesser(p, "UNKNOWN.", "UNKNOWN", "keep(G, 0); keep(G, 1); keep(G, 2)");
        p.holds("UNKNOWN.", "no such place k", x -> x.busy().refused("UNKNOWN", "keep(0, -1); keep(0, 2); keep(7, MIN); keep(7, MAX)")
            .see("back(0, 0) = UNKNOWN; back(0, 1) = UNKNOWN"));
        p.everyWordIsQuoted();
    }

    private static void back() {
        Sentences p = new Sentences("Promise 23");
        String words = "It is as it was kept there";
        p.holds(words, "more than once", x -> x.see("guesser(1, 0, 0, 0)").ways(3, "11").see("keep(0, 0)").ways(3, "00")
            .see("back(0, 0) = 2; inside(0, 0, 0) = 3").ways(3, "0").see("inside(0, 0, 0) = 2; back(0, 0) = 2; inside(0, 0, 0) = 3",
            "misses(0, 3) = 1"));
        p.holds(words, "behind fresh() and again()", x -> x.see("guesser(1, 0, 0, 0)").ways(3, "11").see("keep(0, 0)").ways(3, "0")
            .see("fresh(0) = 3; back(0, 0) = 2; inside(0, 0, 0) = 3; again(0) = 2; inside(0, 0, 0) = 2; back(0, 0) = 2; inside(0, 0, 0) = 3"));
        p.holds(words, "of that GUESSER alone", x -> x.see("guesser(1, 0, 0, 0); guesser(1, 0, 0, 0)").ways(3, "1").see("keep(0, 0); keep(1, 0)")
            .ways(3, "1").see("back(0, 0) = 1; asked(1) = 2; inside(1, 0, 0) = 3; told(2) = 2; told(3) = 2"));
        p.holds(words, "a CHOOSER, and not those that it asks", x -> x.see("guesser(1, 0, 0, 0); guesser(0, 1, 0, 0); guesser(7, 0, 1, 0)",
            "keep(2, 0)").ways(3, "1").see("back(2, 0) = 0; inside(2, 0, 0) = 1; asked(0) = 1; inside(0, 0, 0) = 2"));
        p.holds(words, "the other place stays", x -> x.see("guesser(1, 0, 0, 0)").ways(3, "1").see("keep(0, 0)").ways(3, "1")
            .see("keep(0, 1); back(0, 0) = 1; back(0, 1) = 2; back(0, 0) = 1; inside(0, 0, 0) = 2"));
        p.holds(words, "what is LEARNED behind it is not kept", x -> x.see("guesser(1, 0, 0, 0); keep(0, 0); back(0, 0) = 0").ways(3, "11")
            .see("back(0, 0) = 0; inside(0, 0, 0) = 1; misses(0, 3) = 0"));
        String many = "how many BRANCHES it was asked by then, as asked() tells now.";
        p.holds(many, "none and some", x -> x.see("guesser(0, 0, 0, 0); keep(0, 0)").ways(3, "110")
            .see("keep(0, 1); back(0, 0) = 0; asked(0) = 0; back(0, 1) = 3; asked(0) = 3"));
        unknownGuesser(p, "UNKNOWN: also nothing is.", "UNKNOWN", "back(G, 0); back(G, 1)");
        p.holds("UNKNOWN: also nothing is.", "nothing is kept there", x -> x.see("guesser(1, 0, 0, 0)").ways(3, "1")
            .refused("UNKNOWN", "back(0, 0); back(0, 1)").see("keep(0, 0) = 1").refused("UNKNOWN", "back(0, 1)").see("back(0, 0) = 1; asked(0) = 1"));
        p.holds("UNKNOWN: also nothing is.", "no such place k", x -> x.see("guesser(1, 0, 0, 0); keep(0, 0); keep(0, 1)")
            .refused("UNKNOWN", "back(0, -1); back(0, 2); back(0, MIN); back(0, MAX)"));
        p.everyWordIsQuoted();
    }
}
