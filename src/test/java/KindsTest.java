/** The sentences of the terms about GUESSERS: what each KIND GUESSES and LEARNS, HINTS and CLASHES. */
public final class KindsTest {
    public static void main(String[] args) {
        guessers();
        fixed();
        counters();
        mixed();
        own();
        votes();
        weights();
        loops();
        chooser();
        hints();
        clashes();
        Check.end("KindsTest");
    }

    /** A number of guesser(), written #, from least to most, and what is refused on both sides. */
    private static void limits(Sentences t, String words, String call, int least, int most) {
        t.holds(words, call + " from " + least + " on", x -> x.refused("OUTSIDE", call.replace("#", "" + (least - 1)), call.replace("#", "MIN"))
            .see(call.replace("#", "" + least) + " = 0; told(4) = 1"));
        t.holds(words, call + " up to " + most, x -> x.refused("OUTSIDE", call.replace("#", "" + (most + 1)), call.replace("#", "MAX"))
            .see(call.replace("#", "" + most) + " = 0; told(4) = 1"));
    }

    /** GUESSER 0 has this table of COUNTERS, and no more of them. */
    private static void tableOf(Sentences t, String words, String guesser, int table, int size) {
        String in = "inside(0, " + table + ", ";
        t.holds(words, guesser + " has " + size + " in table " + table, x -> x.see(guesser + " = 0")
            .see(in + "0) = 1", in + (size - 1) + ") = 1").refused("-1000", in + size + ")", in + "-1)"));
    }

    private static void guessers() {
        Sentences t = new Sentences("Terms 2");
        t.holds("GUESSERS, 8 at most, numbered from 0 on.", "the eighth and the ninth", x -> x.each(0, 7, "told(4) = #; guesser(1, 2, 0, 0) = #")
            .refused("FULL", "guesser(1, 2, 0, 0)").see("told(4) = 8").ways(3, "1").see("asked(7) = 1; inside(7, 0, 3) = 2; asked(8) = UNKNOWN"));
        atEachBranch(t);
        counter(t);
        history(t);
        t.holds("KINDS, with a, b, c", "0 to 7", x -> x.see("guesser(0, 1, 1, 1) = 0; guesser(1, 1, 1, 1) = 1; guesser(2, 1, 1, 1) = 2",
            "guesser(3, 1, 1, 1) = 3")
            .see("guesser(4, 1, 1, 1) = 4; guesser(5, 1, 1, 1) = 5; guesser(6, 1, 1, 1) = 6")
                .refused("OUTSIDE", "guesser(-1, 1, 1, 1); guesser(8, 1, 1, 1)")
            .see("guesser(7, 1, 1, 1) = 7"));
        t.everyWordIsQuoted();
    }

    private static void atEachBranch(Sentences t) {
        String words = "At each BRANCH each GUESSER, by numbers, GUESSES its WAY (a MISS, if it is the other one), then it LEARNS it.";
        t.holds(words, "from when it is made on", x -> x.see("guesser(0, 0, 0, 0)").ways(3, "11").see("guesser(0, 0, 0, 0)").ways(3, "1")
            .see("asked(0) = 3; misses(0, 3) = 3; asked(1) = 1; misses(1, 3) = 1"));
        t.holds(words, "a MISS of either WAY", x -> x.see("guesser(0, 0, 0, 0); guesser(0, 1, 0, 0)").ways(3, "0")
            .see("misses(0, 3) = 0; misses(1, 3) = 1")
            .ways(3, "1").see("misses(0, 3) = 1; misses(1, 3) = 1"));
        t.holds(words, "it LEARNS behind its GUESS", x -> x.see("guesser(1, 0, 0, 0)").ways(3, "1").see("misses(0, 3) = 1; guess(0, 3) = 1")
            .ways(3, "1").see("misses(0, 3) = 1"));
        t.holds(words, "at a BRANCH by STEPS, too", x -> x.see("guesser(1, 0, 0, 0); op(0, 10, 0, 0, 0); run(1) = 1; asked(0) = 1; misses(0, 0) = 1",
            "inside(0, 0, 0) = 2")
            .see("run(5) = 5; asked(0) = 6; misses(0, 0) = 1"));
        t.holds(words, "by numbers: a CHOOSER has the GUESSES of here", x -> x.see("guesser(1, 6, 0, 0); guesser(0, 1, 0, 0); guesser(7, 0, 1, 6)")
            .ways(3, "1")
            .see("misses(0, 3) = 1; misses(2, 3) = 1; inside(2, 0, 3) = 2; inside(0, 0, 3) = 2"));
        t.holds(words, "no other call asks", x -> x.see("guesser(1, 0, 0, 0); guess(0, 3); guess(0, 4); told(2); best(3, true); asked(0) = 0",
            "inside(0, 0, 0) = 1"));
    }

    private static void counter(Sentences t) {
        String guesses = "A COUNTER of two bits (0 to 3; 1 at first) GUESSES 1 from 2 on";
        t.holds(guesses, "1 at first", x -> x.see("guesser(1, 0, 0, 0); inside(0, 0, 0) = 1; guess(0, 0) = 0"));
        t.holds(guesses, "at 0", x -> x.see("guesser(1, 0, 0, 0)").ways(0, "0").see("inside(0, 0, 0) = 0; guess(0, 0) = 0"));
        t.holds(guesses, "at 2", x -> x.see("guesser(1, 0, 0, 0)").ways(0, "1").see("inside(0, 0, 0) = 2; guess(0, 0) = 1"));
        t.holds(guesses, "at 3", x -> x.see("guesser(1, 0, 0, 0)").ways(0, "11").see("inside(0, 0, 0) = 3; guess(0, 0) = 1"));
        String learns = "it LEARNS 1 by one more (3 at most), 0 by one less (0 at least).";
        t.holds(learns, "no more than 3", x -> x.see("guesser(1, 0, 0, 0)").ways(0, "1111").see("inside(0, 0, 0) = 3").ways(0, "0")
            .see("inside(0, 0, 0) = 2"));
        t.holds(learns, "no less than 0", x -> x.see("guesser(1, 0, 0, 0)").ways(0, "0000").see("inside(0, 0, 0) = 0").ways(0, "1")
            .see("inside(0, 0, 0) = 1"));
        t.holds(learns, "up and down", x -> x.see("guesser(1, 0, 0, 0)").guesses(0, 5, "1111000001", "0111110000")
            .see("misses(0, 5) = 4; inside(0, 0, 0) = 1"));
    }

    private static void history(Sentences t) {
        String last = "HISTORY of n: the last n WAYS that a GUESSER LEARNED";
        t.holds(last, "no more than n", x -> x.see("guesser(2, 8, 2, 0)").ways(0, "1111").see("inside(0, 0, 3) = 3; inside(0, 0, 7) = 1",
            "inside(0, 0, 1) = 2"));
        t.holds(last, "8 of 9", x -> x.see("guesser(2, 8, 8, 0)").ways(0, "111111111").see("inside(0, 0, 255) = 2; inside(0, 0, 127) = 2")
            .ways(0, "0")
            .see("inside(0, 0, 255) = 1").ways(0, "0").see("inside(0, 0, 254) = 0"));
        t.holds(last, "not what was ahead of it", x -> x.see("guesser(2, 8, 8, 0)").ways(0, "11").see("guesser(2, 8, 8, 0)").ways(0, "1")
            .see("inside(0, 0, 3) = 2; inside(1, 0, 0) = 2; inside(1, 0, 3) = 1"));
        t.holds(last, "of all PLACES", x -> x.see("guesser(2, 8, 8, 0)").ways(5, "1").ways(0, "1")
            .see("inside(0, 0, 5) = 2; inside(0, 0, 1) = 2; inside(0, 0, 0) = 1"));
        t.holds("0 where there is none yet", "the first BRANCH", x -> x.see("guesser(2, 8, 8, 0); guesser(3, 8, 8, 0)").ways(0, "1")
            .see("inside(0, 0, 0) = 2; inside(1, 0, 0) = 2"));
        t.holds("0 where there is none yet", "the first at a PLACE", x -> x.see("guesser(3, 8, 8, 0)").ways(1, "111").ways(2, "1")
            .see("inside(0, 0, 0) = 3; inside(0, 0, 7) = 1"));
        t.holds("as bits, the latest one lowest", "of all", x -> x.see("guesser(2, 3, 3, 0)").ways(0, "1001")
            .see("inside(0, 0, 0) = 2; inside(0, 0, 1) = 0; inside(0, 0, 2) = 0; inside(0, 0, 4) = 2; inside(0, 0, 3) = 1"));
        t.holds("as bits, the latest one lowest", "OWN", x -> x.see("guesser(3, 3, 3, 0)").ways(6, "1001")
            .see("inside(0, 0, 0) = 2; inside(0, 0, 1) = 0; inside(0, 0, 2) = 0; inside(0, 0, 4) = 2; inside(0, 0, 3) = 1"));
        t.holds("OWN: of that PLACE alone.", "PLACES by turns", x -> x.see("guesser(3, 8, 8, 0)").ways(0, "1").ways(63, "1").ways(0, "0")
            .ways(63, "1")
            .see("inside(0, 0, 0) = 3; inside(0, 0, 1) = 1; inside(0, 0, 2) = 1; inside(0, 0, 3) = 1").ways(0, "1").see("inside(0, 0, 2) = 2")
            .ways(63, "1").see("inside(0, 0, 3) = 2"));
    }

    private static void fixed() {
        Sentences t = new Sentences("KIND 0");
        limits(t, "0 FIXED", "guesser(0, #, 0, 0)", 0, 2);
        t.holds("a 0: 0", "whatever comes", x -> x.see("guesser(0, 0, 0, 0)").guesses(0, 5, "1110", "0000")
            .see("guess(0, 0) = 0; guess(0, 63) = 0; misses(0, -1) = 3"));
        t.holds("1: 1", "whatever comes", x -> x.see("guesser(0, 1, 0, 0)").guesses(0, 5, "0001", "1111")
            .see("guess(0, 0) = 1; guess(0, 63) = 1; misses(0, -1) = 3"));
        String back = "2: BACK: 1, if v of the OP at the PLACE is not above the PLACE.";
        t.holds(back, "v is the PLACE", x -> x.see("guesser(0, 2, 0, 0); op(10, 9, 0, 0, 10); guess(0, 10) = 1").ways(10, "0")
            .see("misses(0, 10) = 1"));
        t.holds(back, "v is one above", x -> x.see("guesser(0, 2, 0, 0); op(10, 9, 0, 0, 11); guess(0, 10) = 0").ways(10, "0")
            .see("misses(0, 10) = 0"));
        t.holds(back, "v is one below", x -> x.see("guesser(0, 2, 0, 0); op(10, 9, 0, 0, 9); guess(0, 10) = 1"));
        t.holds(back, "no OP yet", x -> x.see("guesser(0, 2, 0, 0)").each(0, 63, "guess(0, #) = 1"));
        t.holds(back, "the ends of the PLACES", x -> x.see("guesser(0, 2, 0, 0); op(0, 9, 0, 0, 0); op(63, 9, 0, 0, 63); guess(0, 0) = 1",
            "guess(0, 63) = 1")
            .see("op(0, 9, 0, 0, 1); op(62, 9, 0, 0, 63); guess(0, 0) = 0; guess(0, 62) = 0"));
        t.holds(back, "v of an OP that is no BRANCH", x -> x.see("guesser(0, 2, 0, 0); op(10, 1, 0, 0, MIN); guess(0, 10) = 1; op(10, 1, 0, 0, MAX)",
            "guess(0, 10) = 0")
            .see("op(10, 0, 0, 0, 11); guess(0, 10) = 0; op(10, 0, 0, 0, 10); guess(0, 10) = 1; op(10, 12, 0, 0, 63); guess(0, 10) = 0",
                "op(63, 0, 0, 0, 64); guess(0, 63) = 0"));
        t.holds(back, "the OP of now", x -> x.see("guesser(0, 2, 0, 0)").ways(3, "1").see("op(3, 1, 0, 0, 4)").ways(3, "1")
            .see("misses(0, 3) = 1; again(0) = 2"));
        t.everyWordIsQuoted();
    }

    private static void counters() {
        Sentences t = new Sentences("KIND 1");
        String of = "1 COUNTERS: 2 to the a (0 to 6) of them";
        limits(t, of, "guesser(1, #, 0, 0)", 0, 6);
        tableOf(t, of, "guesser(1, 0, 0, 0)", 0, 1);
        tableOf(t, of, "guesser(1, 3, 0, 0)", 0, 8);
        tableOf(t, of, "guesser(1, 6, 0, 0)", 0, 64);
        String bits = "a PLACE has the one of its lowest a bits.";
        t.holds(bits, "a 0: all have one", x -> x.see("guesser(1, 0, 0, 0)").ways(0, "1").ways(63, "1").see("inside(0, 0, 0) = 3; guess(0, 31) = 1"));
        t.holds(bits, "a 2", x -> x.see("guesser(1, 2, 0, 0)").ways(1, "1").ways(5, "1").ways(63, "1").see("inside(0, 0, 1) = 3; inside(0, 0, 3) = 2")
            .see("guess(0, 9) = 1; guess(0, 61) = 1; guess(0, 2) = 0; misses(0, 5) = 0; misses(0, 1) = 1"));
        t.holds(bits, "a 6: each its own", x -> x.see("guesser(1, 6, 0, 0)").ways(1, "1").ways(33, "1").ways(63, "1").ways(0, "0")
            .see("inside(0, 0, 1) = 2; inside(0, 0, 33) = 2; inside(0, 0, 63) = 2; inside(0, 0, 0) = 0; misses(0, -1) = 3"));
        t.everyWordIsQuoted();
    }

    private static void mixed() {
        Sentences t = new Sentences("KIND 2");
        String of = "2 MIXED: 2 to the a (0 to 8) COUNTERS";
        limits(t, of, "guesser(2, #, 0, 0)", 0, 8);
        tableOf(t, of, "guesser(2, 0, 8, 0)", 0, 1);
        tableOf(t, of, "guesser(2, 8, 0, 0)", 0, 256);
        String which = "that of the lowest a bits of the PLACE exclusive or HISTORY of b (0 to 8).";
        limits(t, which, "guesser(2, 0, #, 0)", 0, 8);
        t.holds(which, "PLACE 5 with HISTORY of 2", x -> x.see("guesser(2, 3, 2, 0)").ways(5, "110")
            .see("inside(0, 0, 5) = 2; inside(0, 0, 4) = 2; inside(0, 0, 6) = 0; inside(0, 0, 7) = 1; guess(0, 5) = 0; guess(0, 7) = 1",
                "guess(0, 6) = 1")
            .see("guess(0, 4) = 0; guess(0, 15) = 1; misses(0, -1) = 2").ways(7, "1").see("inside(0, 0, 5) = 3; guess(0, 5) = 1"));
        t.holds(which, "b 0: the PLACE alone", x -> x.see("guesser(2, 8, 0, 0)").ways(0, "111").ways(63, "1")
            .see("inside(0, 0, 0) = 3; inside(0, 0, 63) = 2; inside(0, 0, 7) = 1"));
        t.holds(which, "a 8, b 8: the upper bits are HISTORY alone", x -> x.see("guesser(2, 8, 8, 0)").ways(0, "11111111").ways(63, "1")
            .see("inside(0, 0, 192) = 2; inside(0, 0, 255) = 1"));
        t.holds(which, "more HISTORY than table", x -> x.see("guesser(2, 1, 8, 0)").ways(0, "10")
            .see("inside(0, 0, 0) = 2; inside(0, 0, 1) = 0; guess(0, 0) = 1; guess(0, 1) = 0"));
        t.holds(which, "a 0: one for all", x -> x.see("guesser(2, 0, 8, 0)").ways(63, "1").ways(0, "1").see("inside(0, 0, 0) = 3"));
        t.everyWordIsQuoted();
    }

    private static void own() {
        Sentences t = new Sentences("KIND 3");
        String of = "3 OWN: 2 to the a (0 to 8) COUNTERS";
        limits(t, of, "guesser(3, #, 0, 0)", 0, 8);
        tableOf(t, of, "guesser(3, 0, 8, 1)", 0, 1);
        tableOf(t, of, "guesser(3, 8, 0, 0)", 0, 256);
        String which = "that of the lowest a bits of OWN HISTORY of b (0 to 8), exclusive or c times the PLACE (c 0 or 1).";
        limits(t, which, "guesser(3, 0, #, 0)", 0, 8);
        limits(t, which, "guesser(3, 0, 0, #)", 0, 1);
        t.holds(which, "c 0", x -> x.see("guesser(3, 4, 3, 0)").ways(2, "1").ways(9, "1").ways(2, "01")
            .see("inside(0, 0, 0) = 3; inside(0, 0, 1) = 0")
            .see("inside(0, 0, 2) = 2; inside(0, 0, 5) = 1; guess(0, 2) = 0; guess(0, 9) = 0; guess(0, 30) = 1"));
        t.holds(which, "c 1", x -> x.see("guesser(3, 4, 3, 1)").ways(2, "1").ways(9, "1").ways(2, "01")
            .see("inside(0, 0, 2) = 2; inside(0, 0, 9) = 2")
            .see("inside(0, 0, 3) = 0; inside(0, 0, 0) = 2; guess(0, 9) = 0; guess(0, 25) = 1; guess(0, 3) = 0"));
        t.holds(which, "b 0, c 0: one for all", x -> x.see("guesser(3, 8, 0, 0)").ways(4, "1").ways(63, "1")
            .see("inside(0, 0, 0) = 3; inside(0, 0, 4) = 1"));
        t.holds(which, "b 0, c 1: the PLACE alone", x -> x.see("guesser(3, 6, 0, 1)").ways(4, "11").ways(63, "1")
            .see("inside(0, 0, 4) = 3; inside(0, 0, 63) = 2; inside(0, 0, 5) = 1"));
        t.holds(which, "more HISTORY than table", x -> x.see("guesser(3, 1, 8, 0)").ways(4, "110").see("inside(0, 0, 0) = 2; inside(0, 0, 1) = 1"));
        t.holds(which, "b 8", x -> x.see("guesser(3, 8, 8, 0)").ways(40, "11111111").ways(41, "0")
            .see("inside(0, 0, 127) = 2; inside(0, 0, 255) = 1; inside(0, 0, 0) = 1")
            .ways(40, "11").see("inside(0, 0, 255) = 3"));
        t.everyWordIsQuoted();
    }

    private static void votes() {
        Sentences t = new Sentences("KIND 4");
        String of = "4 VOTES: three tables of 2 to the a (1 to 7) COUNTERS each";
        limits(t, of, "guesser(4, #, 1, 0)", 1, 7);
        for (int table = 0; table < 3; table++) {
            tableOf(t, of, "guesser(4, 1, 1, 0)", table, 2);
            tableOf(t, of, "guesser(4, 7, 4, 0)", table, 128);
        }
        t.holds(of, "no fourth table", x -> x.see("guesser(4, 1, 1, 0)").refused("-1000", "inside(0, 3, 0); inside(0, -1, 0)"));
        String with = "with HISTORIES of 0, b and 2 b (b 1 to 4)";
        limits(t, with, "guesser(4, 1, #, 0)", 1, 4);
        t.holds(with, "b 1", x -> x.see("guesser(4, 3, 1, 0)").ways(0, "1111").see("inside(0, 0, 0) = 3; inside(0, 1, 0) = 2; inside(0, 1, 1) = 3",
            "inside(0, 1, 3) = 1")
            .see("inside(0, 2, 0) = 2; inside(0, 2, 1) = 2; inside(0, 2, 3) = 3; inside(0, 2, 7) = 1"));
        t.holds(with, "b 4", x -> x.see("guesser(4, 7, 4, 0)").ways(1, "101101").see("inside(0, 0, 5) = 3; inside(0, 1, 5) = 2; inside(0, 1, 4) = 0",
            "inside(0, 1, 7) = 2")
            .see("inside(0, 1, 0) = 2; inside(0, 1, 14) = 0; inside(0, 1, 3) = 2; inside(0, 2, 19) = 2; inside(0, 2, 3) = 1"));
        t.holds(with, "b 4, 8 WAYS of nine", x -> x.see("guesser(4, 7, 4, 0)").ways(0, "100000000")
            .see("inside(0, 2, 64) = 0; inside(0, 2, 0) = 1; inside(0, 1, 0) = 0"));
        String which = "in each that of the lowest a bits of the PLACE times 5 exclusive or HISTORY";
        t.holds(which, "PLACE 63", x -> x.see("guesser(4, 7, 1, 0)").ways(63, "1").see("inside(0, 0, 59) = 2; inside(0, 1, 59) = 2",
            "inside(0, 2, 59) = 2; inside(0, 0, 63) = 1")
            .ways(63, "1").see("inside(0, 0, 59) = 3; inside(0, 1, 58) = 2; inside(0, 2, 58) = 2"));
        t.holds(which, "a 1: even and odd PLACES", x -> x.see("guesser(4, 1, 1, 0)").ways(2, "0").ways(3, "0")
            .see("inside(0, 0, 0) = 0; inside(0, 0, 1) = 0"));
        t.holds("two of three are followed", "one and two of them GUESS 1", x -> x.see("guesser(4, 3, 1, 0)").ways(3, "1")
            .see("inside(0, 0, 7) = 2; inside(0, 1, 7) = 2")
            .see("inside(0, 2, 7) = 2; guess(0, 3) = 0").ways(3, "1").see("inside(0, 1, 6) = 2; inside(0, 2, 4) = 1; guess(0, 3) = 1",
                "misses(0, -1) = 2"));
        t.holds("two of three are followed", "none and all of them GUESS 1", x -> x.see("guesser(4, 3, 1, 0); guess(0, 0) = 0").ways(0, "111")
            .see("guess(0, 0) = 1; misses(0, 0) = 2"));
        t.holds("each LEARNS.", "also those that were wrong", x -> x.see("guesser(4, 3, 1, 0)").ways(3, "1110")
            .see("inside(0, 0, 7) = 2; inside(0, 1, 6) = 2; inside(0, 2, 4) = 1"));
        t.everyWordIsQuoted();
    }

    private static void weights() {
        Sentences t = new Sentences("KIND 5");
        String of = "5 WEIGHTS: 2 to the a (0 to 4) rows of b (1 to 8) and 1 weights, 0 at first";
        limits(t, of, "guesser(5, #, 1, 0)", 0, 4);
        limits(t, of, "guesser(5, 0, #, 0)", 1, 8);
        t.holds(of, "the least", x -> x.see("guesser(5, 0, 1, 0)").see("inside(0, 0, 0) = 0; inside(0, 0, 1) = 0")
            .refused("-1000", "inside(0, 0, 2); inside(0, 1, 0); inside(0, -1, 0)"));
        t.holds(of, "the most", x -> x.see("guesser(5, 4, 8, 0)").each(0, 15, "inside(0, #, 0) = 0; inside(0, #, 8) = 0; inside(0, #, 9) = -1000")
            .refused("-1000", "inside(0, 16, 0)"));
        String bits = "a PLACE has that of its lowest a bits.";
        t.holds(bits, "a 0: all have one", x -> x.see("guesser(5, 0, 1, 0)").ways(0, "0").see("guess(0, 63) = 0; guess(0, 1) = 0"));
        t.holds(bits, "a 1", x -> x.see("guesser(5, 1, 1, 0)").ways(3, "0").see("inside(0, 1, 0) = -1; inside(0, 0, 0) = 0; guess(0, 3) = 0",
            "guess(0, 1) = 0; guess(0, 2) = 1"));
        t.holds(bits, "a 4", x -> x.see("guesser(5, 4, 1, 0)").ways(47, "0").ways(16, "0").see("inside(0, 15, 0) = -1; inside(0, 0, 0) = -1",
            "inside(0, 1, 0) = 0; guess(0, 63) = 0; guess(0, 14) = 1"));
        sums(t);
        weightsLearn(t);
        weightsAtTheirEnds(t);
        t.everyWordIsQuoted();
    }

    private static void sums(Sentences t) {
        String sum = "Its SUM: the first weight, and for each bit of HISTORY of b, the latest first, the next weight, "
            + "if it is 1, less it, if it is 0.";
        t.holds(sum, "each of four HISTORIES", x -> x.see("guesser(5, 1, 2, 0)").ways(1, "0")
            .see("inside(0, 1, 0) = -1; inside(0, 1, 1) = 1; inside(0, 1, 2) = 1; guess(0, 1) = 0")
            .ways(0, "1").see("guess(0, 1) = 0").ways(0, "1").see("guess(0, 1) = 1").ways(0, "0").see("guess(0, 1) = 0").ways(0, "0")
                .see("guess(0, 1) = 0"));
        t.holds(sum, "the latest WAY has the first of the next weights", x -> x.see("guesser(5, 0, 2, 50)").ways(0, "11")
            .see("inside(0, 0, 0) = 2; inside(0, 0, 1) = 0; inside(0, 0, 2) = -2"));
        t.holds(sum, "no WAY yet is as WAY 0", x -> x.see("guesser(5, 0, 8, 0)").ways(0, "0").each(1, 8, "inside(0, 0, #) = 1"));
        String guess = "GUESS 1: SUM is 0 or more.";
        t.holds(guess, "SUM 0", x -> x.see("guesser(5, 0, 2, 0); guess(0, 0) = 1").ways(0, "1").see("misses(0, 0) = 0"));
        t.holds(guess, "SUM -1", x -> x.see("guesser(5, 1, 2, 0)").ways(1, "0").ways(0, "1").see("guess(0, 1) = 0").ways(1, "1")
            .see("misses(0, 1) = 2"));
        t.holds(guess, "SUM 1", x -> x.see("guesser(5, 0, 2, 0)").ways(0, "1").see("inside(0, 0, 0) = 1; inside(0, 0, 1) = -1; inside(0, 0, 2) = -1",
            "guess(0, 0) = 1"));
    }

    private static void weightsLearn(Sentences t) {
        String when = "If that was wrong (whatever a HINT says), or the size of SUM is c (0 to 50) or less";
        limits(t, when, "guesser(5, 0, 1, #)", 0, 50);
        t.holds(when, "wrong, though SUM is above c", x -> x.see("guesser(5, 0, 1, 0)").ways(0, "111")
            .see("inside(0, 0, 0) = 2; inside(0, 0, 1) = 0").ways(0, "0")
            .see("inside(0, 0, 0) = 1; inside(0, 0, 1) = -1"));
        t.holds(when, "wrong below 0, though the size is above c", x -> x.see("guesser(5, 0, 1, 0)").ways(0, "00")
            .see("inside(0, 0, 0) = -1; inside(0, 0, 1) = 1").ways(0, "1")
            .see("inside(0, 0, 0) = 0; inside(0, 0, 1) = 0"));
        t.holds(when, "right, SUM is c", x -> x.see("guesser(5, 0, 1, 4)").ways(0, "111").see("inside(0, 0, 0) = 3; inside(0, 0, 1) = 1").ways(0, "1")
            .see("inside(0, 0, 0) = 4; inside(0, 0, 1) = 2"));
        t.holds(when, "right, SUM is one above c", x -> x.see("guesser(5, 0, 1, 3)").ways(0, "1111").see("inside(0, 0, 0) = 3; inside(0, 0, 1) = 1"));
        t.holds(when, "right, SUM is -c", x -> x.see("guesser(5, 0, 1, 2)").ways(0, "00").see("inside(0, 0, 0) = -2; inside(0, 0, 1) = 2"));
        t.holds(when, "right, SUM is one below -c", x -> x.see("guesser(5, 0, 1, 1)").ways(0, "00").see("inside(0, 0, 0) = -1; inside(0, 0, 1) = 1"));
        t.holds(when, "wrong, SUM is -1", x -> x.see("guesser(5, 1, 2, 0)").ways(1, "0").ways(0, "1").ways(1, "1")
            .see("inside(0, 1, 0) = 0; inside(0, 1, 1) = 2; inside(0, 1, 2) = 0"));
        t.holds(when, "right, SUM is -1, c 0", x -> x.see("guesser(5, 1, 2, 0)").ways(1, "0").ways(0, "1").ways(1, "0")
            .see("inside(0, 1, 0) = -1; inside(0, 1, 1) = 1; inside(0, 1, 2) = 1"));
        t.holds(when, "right, SUM is -1, c 1", x -> x.see("guesser(5, 1, 2, 1)").ways(1, "0").ways(0, "1").ways(1, "0")
            .see("inside(0, 1, 0) = -2; inside(0, 1, 1) = 0; inside(0, 1, 2) = 2"));
        t.holds(when, "c 0 and SUM 0", x -> x.see("guesser(5, 0, 1, 0)").ways(0, "1").see("inside(0, 0, 0) = 1; inside(0, 0, 1) = -1"));
        t.holds(when, "c 50", x -> x.see("guesser(5, 0, 1, 50)").ways(0, "1".repeat(26)).see("inside(0, 0, 0) = 26; inside(0, 0, 1) = 24")
            .ways(0, "1").see("inside(0, 0, 0) = 27").ways(0, "1")
            .see("inside(0, 0, 0) = 27; inside(0, 0, 1) = 25"));
        t.holds(when, "a HINT is wrong, SUM is right", x -> x.see("guesser(5, 0, 1, 0); hint(0, 0, 0)").ways(0, "111")
            .see("inside(0, 0, 0) = 2; inside(0, 0, 1) = 0; misses(0, 0) = 3"));
        t.holds(when, "a HINT is right, SUM is wrong", x -> x.see("guesser(5, 0, 1, 0); hint(0, 0, 0)").ways(0, "1110")
            .see("inside(0, 0, 0) = 1; inside(0, 0, 1) = -1; misses(0, 0) = 3"));
        String first = "the first weight is one more, if the WAY is 1, else one less";
        t.holds(first, "WAY 1", x -> x.see("guesser(5, 0, 1, 50)").ways(0, "11").see("inside(0, 0, 0) = 2"));
        t.holds(first, "WAY 0", x -> x.see("guesser(5, 0, 1, 50)").ways(0, "00").see("inside(0, 0, 0) = -2"));
        String next = "each next one is one more, if its bit is the WAY, else one less";
        t.holds(next, "bit 0, WAY 0", x -> x.see("guesser(5, 0, 1, 50)").ways(0, "0").see("inside(0, 0, 1) = 1"));
        t.holds(next, "bit 0, WAY 1", x -> x.see("guesser(5, 0, 1, 50)").ways(0, "1").see("inside(0, 0, 1) = -1"));
        t.holds(next, "bit 1, WAY 1", x -> x.see("guesser(5, 0, 1, 50)").ways(0, "11").see("inside(0, 0, 1) = 0"));
        t.holds(next, "bit 1, WAY 0", x -> x.see("guesser(5, 0, 1, 50)").ways(0, "10").see("inside(0, 0, 1) = -2"));
        t.holds(next, "eight of them", x -> x.see("guesser(5, 0, 8, 50)").ways(0, "101").see("inside(0, 0, 0) = 1; inside(0, 0, 1) = -3",
            "inside(0, 0, 2) = 1").each(3, 8, "inside(0, 0, #) = -1"));
    }

    /** Shortest rows of WAYS at whose last BRANCH a weight would go beyond its end, found by search over all rows. */
    private static void weightsAtTheirEnds(Sentences t) {
        String up = "110".repeat(34) + "1".repeat(29);
        String down = "0".repeat(15) + "010".repeat(36) + "0".repeat(13);
        String lastUp = "10".repeat(10) + "110".repeat(12) + "10".repeat(8) + "1".repeat(25) + "0" + "10".repeat(9) + "1111111010" + "0".repeat(16);
        String lastDown = "1001".repeat(8) + "101" + "101".repeat(18) + "1001".repeat(12) + "10";
        t.holds("-64 to 63 at most.", "the first weight up", x -> x.see("guesser(5, 0, 2, 50)").ways(0, up).see("inside(0, 0, 0) = 63")
            .ways(0, "1").see("inside(0, 0, 0) = 63"));
        t.holds("-64 to 63 at most.", "the first weight down", x -> x.see("guesser(5, 0, 2, 50)").ways(0, down).see("inside(0, 0, 0) = -64")
            .ways(0, "0").see("inside(0, 0, 0) = -64"));
        t.holds("-64 to 63 at most.", "a next weight up", x -> x.see("guesser(5, 0, 2, 50)").ways(0, lastUp).see("inside(0, 0, 2) = 63")
            .ways(0, "0").see("inside(0, 0, 2) = 63"));
        t.holds("-64 to 63 at most.", "a next weight down", x -> x.see("guesser(5, 0, 2, 50)").ways(0, lastDown).see("inside(0, 0, 2) = -64")
            .ways(0, "0").see("inside(0, 0, 2) = -64"));
    }

    private static void loops() {
        Sentences t = new Sentences("KIND 6");
        String count = "6 LOOPS: of each PLACE how many WAYS 1 came since the last 0 (255 at most)";
        t.holds(count, "since the beginning", x -> x.see("guesser(6, 1, 0, 0); inside(0, 4, 0) = 0").ways(4, "11").ways(5, "1")
            .see("inside(0, 4, 0) = 2; inside(0, 5, 0) = 1; inside(0, 3, 0) = 0"));
        t.holds(count, "since the last 0", x -> x.see("guesser(6, 1, 0, 0)").ways(4, "1110111").ways(5, "0").see("inside(0, 4, 0) = 3")
            .ways(4, "0").see("inside(0, 4, 0) = 0"));
        String ones = "guesser(6, 1, 0, 0); op(0, 11, 1, 0, 0); register(1, 1)";
        t.holds(count, "254, 255 and no more", x -> x.see(ones).see("run(254); inside(0, 0, 0) = 254; run(1); inside(0, 0, 0) = 255; run(1)",
            "inside(0, 0, 0) = 255; run(999); inside(0, 0, 0) = 255"));
        t.holds(count, "the ends of the PLACES", x -> x.see("guesser(6, 1, 0, 0)").ways(0, "1").ways(63, "11")
            .see("inside(0, 0, 0) = 1; inside(0, 63, 0) = 2").refused("-1000", "inside(0, 64, 0); inside(0, -1, 0)"));
        String last = "the count at which it last was 0 (-1 at first)";
        t.holds(last, "-1 at first", x -> x.see("guesser(6, 1, 0, 0)").each(0, 63, "inside(0, #, 1) = -1").ways(4, "11").see("inside(0, 4, 1) = -1"));
        t.holds(last, "the last of several", x -> x.see("guesser(6, 1, 0, 0)").ways(4, "110").see("inside(0, 4, 1) = 2").ways(4, "10")
            .see("inside(0, 4, 1) = 1; inside(0, 5, 1) = -1"));
        t.holds(last, "0", x -> x.see("guesser(6, 1, 0, 0)").ways(4, "0").see("inside(0, 4, 1) = 0"));
        t.holds(last, "255 of 300", x -> x.see(ones).see("run(300); register(1, 0); run(1); inside(0, 0, 1) = 255; inside(0, 0, 0) = 0"));
        t.holds("and TRUST (0 to 3; 0 at first).", "0 at first", x -> x.see("guesser(6, 1, 0, 0)").each(0, 63, "inside(0, #, 2) = 0"));
        t.holds("and TRUST (0 to 3; 0 at first).", "of each PLACE its own", x -> x.see("guesser(6, 1, 0, 0)").ways(4, "1010").ways(5, "10")
            .see("inside(0, 4, 2) = 1; inside(0, 5, 2) = 0"));
        loopsGuess(t);
        loopsLearn(t, ones);
        t.everyWordIsQuoted();
    }

    private static void loopsGuess(Sentences t) {
        String words = "GUESS 0, if TRUST is a (1 to 3) or more and the count is that; else 1.";
        limits(t, words, "guesser(6, #, 0, 0)", 1, 3);
        t.holds(words, "a 1", x -> x.see("guesser(6, 1, 0, 0)").guesses(0, 4, "110110110110", "111111110110").see("misses(0, 4) = 2"));
        t.holds(words, "a 2", x -> x.see("guesser(6, 2, 0, 0)").guesses(0, 4, "110110110110", "111111111110").see("misses(0, 4) = 3"));
        t.holds(words, "a 3", x -> x.see("guesser(6, 3, 0, 0)").guesses(0, 4, "110110110110110", "111111111111110").see("misses(0, 4) = 4"));
        t.holds(words, "the count is beyond that", x -> x.see("guesser(6, 1, 0, 0)").ways(4, "110110").guesses(0, 4, "1111", "1101")
            .see("misses(0, 4) = 3"));
        t.holds(words, "the count is 0", x -> x.see("guesser(6, 1, 0, 0)").guesses(0, 63, "0001", "1100"));
        t.holds(words, "no 0 yet", x -> x.see("guesser(6, 1, 0, 0)").each(0, 63, "guess(0, #) = 1"));
    }

    private static void loopsLearn(Sentences t, String ones) {
        String zero = "LEARNING 0: TRUST is one more (3 at most), if the count is that, else 0 and that is the count; the count is 0.";
        t.holds(zero, "the first 0", x -> x.see("guesser(6, 1, 0, 0)").ways(4, "110").see("inside(0, 4, 0) = 0; inside(0, 4, 1) = 2",
            "inside(0, 4, 2) = 0"));
        t.holds(zero, "the count is that", x -> x.see("guesser(6, 1, 0, 0)").ways(4, "110110")
            .see("inside(0, 4, 0) = 0; inside(0, 4, 1) = 2; inside(0, 4, 2) = 1"));
        t.holds(zero, "3 at most", x -> x.see("guesser(6, 1, 0, 0)").ways(4, "10101010").see("inside(0, 4, 2) = 3").ways(4, "10")
            .see("inside(0, 4, 2) = 3; inside(0, 4, 1) = 1"));
        t.holds(zero, "the count is below that", x -> x.see("guesser(6, 1, 0, 0)").ways(4, "110110110").see("inside(0, 4, 2) = 2").ways(4, "10")
            .see("inside(0, 4, 0) = 0; inside(0, 4, 1) = 1; inside(0, 4, 2) = 0"));
        t.holds(zero, "the count is above that", x -> x.see("guesser(6, 1, 0, 0)").ways(4, "1101101110")
            .see("inside(0, 4, 0) = 0; inside(0, 4, 1) = 3; inside(0, 4, 2) = 0"));
        t.holds(zero, "a count of 255 and one cut to 255", x -> x.see(ones).see("run(255); register(1, 0); run(1); register(1, 1); stand(0)",
            "run(256); register(1, 0); run(1); inside(0, 0, 2) = 1")
            .see("register(1, 1); stand(0); run(254); register(1, 0); run(1); inside(0, 0, 2) = 0; inside(0, 0, 1) = 254"));
        t.holds("LEARNING 1: the count is one more.", "TRUST and that stay", x -> x.see("guesser(6, 1, 0, 0)").ways(4, "110110").ways(4, "1111")
            .see("inside(0, 4, 0) = 4; inside(0, 4, 1) = 2; inside(0, 4, 2) = 1"));
    }

    private static void chooser() {
        Sentences t = new Sentences("KIND 7");
        String between = "7 CHOOSER: between GUESSERS a and b, of lesser numbers";
        t.holds(between, "its own number and greater ones", x -> x.see("guesser(0, 0, 0, 0); guesser(0, 1, 0, 0)")
            .refused("UNKNOWN", "guesser(7, 2, 0, 0); guesser(7, 0, 2, 0); guesser(7, 3, 3, 0)")
            .see("guesser(7, 1, 0, 0) = 2; guesser(7, 2, 2, 0) = 3"));
        t.holds(between, "the same one twice", x -> x.see("guesser(1, 0, 0, 0); guesser(7, 0, 0, 0)").ways(3, "1101")
            .see("misses(0, 3) = 2; misses(1, 3) = 2; inside(1, 0, 0) = 1"));
        t.holds(between, "CHOOSERS of CHOOSERS, seven deep", x -> x.see("guesser(0, 0, 0, 0); guesser(0, 1, 0, 0)")
            .each(2, 7, "guesser(7, #, 0, 0) = -1").see("guesser(7, 1, 0, 0) = 2; guesser(7, 2, 0, 0) = 3")
            .see("guesser(7, 3, 0, 0) = 4; guesser(7, 4, 0, 0) = 5; guesser(7, 5, 0, 0) = 6; guesser(7, 6, 0, 0) = 7; guess(7, 3) = 1; hint(4, 3, 0)")
            .see("guess(7, 3) = 0; guess(3, 3) = 1; guess(7, 4) = 1").ways(3, "0").see("misses(3, 3) = 1; misses(4, 3) = 0; misses(7, 3) = 0",
                "inside(2, 0, 0) = 2")
            .see("inside(3, 0, 0) = 2; inside(4, 0, 0) = 2; inside(5, 0, 0) = 1; inside(7, 0, 0) = 1; guess(2, 4) = 0; guess(7, 4) = 0"));
        String of = "2 to the c (0 to 6) COUNTERS, that of the PLACE's lowest c bits";
        String two = "guesser(0, 0, 0, 0); guesser(0, 1, 0, 0)";
        t.holds(of, "c too small, too large", x -> x.see(two).refused("OUTSIDE", "guesser(7, 0, 1, -1); guesser(7, 0, 1, 7); guesser(7, 0, 1, MIN)",
            "guesser(7, 0, 1, MAX)"));
        t.holds(of, "c 0", x -> x.see(two).see("guesser(7, 0, 1, 0) = 2; inside(2, 0, 0) = 1; inside(2, 0, 1) = -1000").ways(0, "1").ways(63, "1")
            .see("inside(2, 0, 0) = 3"));
        t.holds(of, "c 2", x -> x.see(two).see("guesser(7, 0, 1, 2) = 2; inside(2, 0, 3) = 1; inside(2, 0, 4) = -1000").ways(5, "1").ways(61, "1")
            .ways(62, "1").see("inside(2, 0, 1) = 3; inside(2, 0, 2) = 2"));
        t.holds(of, "c 6", x -> x.see(two).see("guesser(7, 0, 1, 6) = 2; inside(2, 0, 63) = 1; inside(2, 0, 64) = -1000").ways(63, "1")
            .ways(0, "1").see("inside(2, 0, 63) = 2; inside(2, 0, 0) = 2; inside(2, 0, 1) = 1"));
        chooserGuesses(t, two);
        t.everyWordIsQuoted();
    }

    private static void chooserGuesses(Sentences t, String two) {
        String guess = "2 and more: as b GUESSED here, else as a.";
        t.holds(guess, "from 1 to 3 and to 0", x -> x.see(two).see("guesser(7, 0, 1, 0) = 2; guess(2, 3) = 0").ways(3, "1")
            .see("inside(2, 0, 0) = 2; guess(2, 3) = 1").ways(3, "1")
            .see("inside(2, 0, 0) = 3; guess(2, 3) = 1").ways(3, "000").see("inside(2, 0, 0) = 0; guess(2, 3) = 0; misses(2, 3) = 3"));
        t.holds(guess, "a and b the other way round", x -> x.see(two).see("guesser(7, 1, 0, 0) = 2; guess(2, 3) = 1").ways(3, "0")
            .see("guess(2, 3) = 0; inside(2, 0, 0) = 2"));
        t.holds(guess, "with the HINTS of a and b", x -> x.see(two).see("guesser(7, 0, 1, 0) = 2; hint(0, 3, 1); guess(2, 3) = 1; guess(2, 4) = 0")
            .ways(3, "1").see("misses(2, 3) = 0"));
        t.holds(guess, "here: not what was asked between", x -> x.see("guesser(1, 6, 0, 0); guesser(0, 1, 0, 0); guesser(7, 0, 1, 6)").ways(3, "1")
            .see("guess(2, 9) = 0; guess(0, 9) = 0").ways(3, "0")
            .see("misses(2, 3) = 2; inside(2, 0, 3) = 2"));
        String learn = "It LEARNS only if these were unlike: 1, if b was right, else 0.";
        t.holds(learn, "b was right", x -> x.see(two).see("guesser(7, 0, 1, 0)").ways(3, "11111").see("inside(2, 0, 0) = 3"));
        t.holds(learn, "a was right", x -> x.see(two).see("guesser(7, 0, 1, 0)").ways(3, "00000").see("inside(2, 0, 0) = 0"));
        t.holds(learn, "both alike", x -> x.see("guesser(0, 0, 0, 0); guesser(0, 0, 0, 0); guesser(7, 0, 1, 0)").ways(3, "1100")
            .see("inside(2, 0, 0) = 1; misses(2, 3) = 2; asked(2) = 4"));
        t.holds(learn, "alike by a HINT", x -> x.see(two).see("guesser(7, 0, 1, 0); hint(0, 3, 1)").ways(3, "10").see("inside(2, 0, 0) = 1")
            .see("hint(1, 3, 0)").ways(3, "1").see("inside(2, 0, 0) = 0"));
    }

    private static void hints() {
        Sentences t = new Sentences("HINTS");
        String may = "HINTS: a GUESSER may have for a PLACE a HINT, 0 or 1";
        t.holds(may, "of that GUESSER and PLACE alone", x -> x.see("guesser(0, 0, 0, 0); guesser(0, 0, 0, 0); hint(0, 3, 1) = -1; guess(0, 3) = 1",
            "guess(0, 2) = 0; guess(0, 4) = 0; guess(1, 3) = 0"));
        t.holds(may, "other numbers", x -> x.see("guesser(0, 0, 0, 0)").refused("OUTSIDE", "hint(0, 3, 2); hint(0, 3, -2)"));
        t.holds(may, "all PLACES", x -> x.see("guesser(0, 0, 0, 0)").each(0, 63, "hint(0, #, 1) = -1; guess(0, #) = 1"));
        String makers = "guesser(0, 0, 0, 0); guesser(1, 0, 0, 0); guesser(2, 0, 0, 0); guesser(3, 0, 0, 0); guesser(4, 1, 1, 0); "
            + "guesser(5, 0, 1, 0); guesser(6, 1, 0, 0); guesser(7, 0, 1, 0)";
        t.holds("it GUESSES that there", "1, of each KIND", x -> x.see(makers).each(0, 7, "hint(#, 3, 1) = -1").ways(3, "000")
            .each(0, 7, "guess(#, 3) = 1; misses(#, 3) = 3"));
        t.holds("it GUESSES that there", "0, of each KIND", x -> x.see(makers).each(0, 7, "hint(#, 3, 0) = -1").ways(3, "111")
            .each(0, 7, "guess(#, 3) = 0; misses(#, 3) = 3"));
        String as = "(LEARNS as ever)";
        t.holds(as, "COUNTERS, MIXED, OWN", x -> x.see(makers).each(1, 3, "hint(#, 3, 0)").ways(3, "11")
            .each(1, 3, "inside(#, 0, 0) = 3; hint(#, 3, -1) = 0; guess(#, 3) = 1"));
        t.holds(as, "VOTES and LOOPS", x -> x.see(makers).see("hint(4, 3, 0); hint(6, 3, 0)").ways(3, "11")
            .see("inside(4, 0, 1) = 3; inside(4, 1, 0) = 2; inside(6, 3, 0) = 2"));
        t.holds(as, "a CHOOSER", x -> x.see("guesser(0, 0, 0, 0); guesser(0, 1, 0, 0); guesser(7, 0, 1, 0); hint(2, 3, 0)").ways(3, "11")
            .see("misses(2, 3) = 2; inside(2, 0, 0) = 3; guess(2, 4) = 1"));
        t.holds(as, "HISTORY", x -> x.see("guesser(2, 3, 3, 0); hint(0, 0, 0)").ways(0, "11")
            .see("inside(0, 0, 0) = 2; inside(0, 0, 1) = 2; inside(0, 0, 3) = 1"));
        t.everyWordIsQuoted();
    }

    private static void clashes() {
        Sentences t = new Sentences("CLASHES");
        String kinds = "CLASHES: of KINDS 1, 2, 3, 5 and 7";
        t.holds(kinds, "each KIND", x -> x.see("guesser(0, 2, 0, 0); guesser(1, 1, 0, 0); guesser(2, 1, 1, 0); guesser(3, 1, 1, 0)",
            "guesser(4, 1, 1, 0); guesser(5, 1, 1, 0); guesser(6, 1, 0, 0); guesser(7, 1, 1, 1)")
            .ways(1, "1").ways(2, "1").ways(3, "1").see("clashes(0) = NO; clashes(4) = NO; clashes(6) = NO; clashes(1) = 1; clashes(2) = 1",
                "clashes(3) = 2; clashes(5) = 1; clashes(7) = 1")
            .see("pair(1, 0) = 67; pair(2, 0) = 66; pair(3, 0) = 66; pair(3, 1) = 131; pair(5, 0) = 67; pair(7, 0) = 67"));
        String asked = "a COUNTER (row) that is asked at a BRANCH (with a HINT, too), having been asked last at one of another PLACE";
        t.holds(asked, "never asked yet", x -> x.see("guesser(1, 0, 0, 0); clashes(0) = 0").ways(5, "1").see("clashes(0) = 0"));
        t.holds(asked, "the same PLACE again", x -> x.see("guesser(1, 0, 0, 0)").ways(5, "111").see("clashes(0) = 0"));
        t.holds(asked, "another PLACE, there and back", x -> x.see("guesser(1, 0, 0, 0)").ways(5, "1").ways(0, "1").see("clashes(0) = 1")
            .ways(5, "1").see("clashes(0) = 2").ways(5, "1").see("clashes(0) = 2"));
        t.holds(asked, "PLACE 0 first", x -> x.see("guesser(1, 0, 0, 0)").ways(0, "1").ways(63, "1").see("clashes(0) = 1; pair(0, 0) = 63"));
        t.holds(asked, "another COUNTER", x -> x.see("guesser(1, 1, 0, 0)").ways(4, "1").ways(5, "1").ways(4, "1").see("clashes(0) = 0")
            .ways(6, "1").see("clashes(0) = 1"));
        t.holds(asked, "another row", x -> x.see("guesser(5, 1, 1, 0)").ways(4, "1").ways(5, "1").ways(4, "1").see("clashes(0) = 0").ways(6, "1")
            .see("clashes(0) = 1"));
        t.holds(asked, "by HISTORY ahead of LEARNING", x -> x.see("guesser(2, 8, 1, 0)").ways(4, "11").ways(5, "1")
            .see("clashes(0) = 1; pair(0, 0) = 261").ways(4, "1").see("clashes(0) = 1"));
        t.holds(asked, "with a HINT", x -> x.see("guesser(1, 0, 0, 0); hint(0, 5, 1); hint(0, 3, 0)").ways(5, "1").ways(3, "1").ways(5, "1")
            .see("clashes(0) = 2"));
        t.holds(asked, "guess() is no BRANCH", x -> x.see("guesser(1, 0, 0, 0)").ways(5, "1").see("guess(0, 9); clashes(0) = 0").ways(5, "1")
            .see("clashes(0) = 0"));
        t.holds(asked, "a CHOOSER that does not LEARN", x -> x.see("guesser(0, 0, 0, 0); guesser(7, 0, 0, 0)").ways(5, "1").ways(3, "1")
            .see("clashes(1) = 1; inside(1, 0, 0) = 1"));
        t.holds("these two PLACES are a PAIR.", "the lesser one first, whichever came first", x -> x.see("guesser(1, 0, 0, 0)").ways(5, "1")
            .ways(3, "1").see("pair(0, 0) = 197; pair(0, 1) = NONE").ways(5, "1")
            .see("pair(0, 1) = NONE").ways(63, "1").see("pair(0, 1) = 383"));
        t.everyWordIsQuoted();
    }
}
