/** Promises 1 to 10, sentence by sentence. */
public final class MachinePromisesTest {
    public static void main(String[] args) {
        aNewObject();
        op();
        register();
        value();
        data();
        stored();
        stand();
        run();
        branch();
        at();
        Check.end("MachinePromisesTest");
    }

    private static void aNewObject() {
        Sentences p = new Sentences("Promise 1");
        String zero = "OPS, REGISTERS, DATA are 0";
        p.holds(zero, "OPS", x -> x.see("run(2000) = 0; told(0) = 0; told(1) = 0").each(0, 63, "op(#, 0, 0, 0, 0) = 0"));
        p.holds(zero, "REGISTERS", x -> x.each(0, 7, "value(#) = 0"));
        p.holds(zero, "DATA", x -> x.each(0, 31, "stored(#) = 0"));
        p.holds(zero, "another object has its own", x -> {
            Bench other = new Bench("Promise 1, the other object");
            x.busy();
            other.see("value(1) = 0; stored(5) = 0; told(0) = 0; told(3) = 0; told(4) = 0; branch(0, 0) = 1; op(10, 0, 0, 0, 0) = 0");
            x.see("value(1) = 2; stored(5) = 9; told(3) = 9; told(4) = 8");
        });
        p.holds("no GUESSERS", "none has a number", x -> x.see("told(4) = 0").refused("UNKNOWN",
            "guess(0, 0); hint(0, 0, 0); profile(0); misses(0, -1); asked(0); clashes(0); pair(0, 0)",
            "fresh(0); again(0); keep(0, 0); back(0, 0); ticks(0, 0); guesser(7, 0, 0, 0)").refused("-1000", "inside(0, 0, 0)"));
        p.holds("THE ROW is empty.", "nothing is in it", x -> x.refused("UNKNOWN", "at(0, 0); at(0, 1)")
            .see("told(2) = 0; told(3) = 0; best(0, true) = 0")
            .see("seen(0, true) = 0; seen(8, false) = 0").each(0, 63, "often(#, -1) = 0").see("empty() = 0; branch(0, 0) = 1"));
        p.everyWordIsQuoted();
    }

    private static void op() {
        Sentences p = new Sentences("Promise 2");
        String which = "An OP: which kind it was.";
        p.holds(which, "each kind behind the one before", x -> x.see("op(63, 0, 7, 7, 63) = 0").each(0, 11, "op(63, #, 7, 7, 63)")
            .see("op(63, 12, 7, 7, 63) = 11; op(63, 0, 0, 0, 0) = 12; op(63, 1, 0, 0, 0) = 0"));
        p.holds(which, "each kind", x -> x.each(0, 12, "op(#, #, 0, 0, 0) = 0").each(0, 12, "op(#, 0, 0, 0, 0) = #"));
        p.holds(which, "the same again", x -> x.see("op(5, 9, 1, 2, 3) = 0; op(5, 9, 1, 2, 3) = 9"));
        p.holds(which, "it is the OP from then on", x -> x.see("op(0, 1, 1, 0, 4) = 0; run(1) = 1; value(1) = 4; op(0, 1, 2, 0, 5) = 1; stand(0)",
            "run(1) = 1; value(1) = 4; value(2) = 5"));
        p.holds(which, "it stands where it stood", x -> x.see("stand(9) = 0; op(3, 12, 0, 0, 5) = 0; told(0) = 9; told(1) = 0"));
        p.holds("UNKNOWN", "PLACES -1, 64 and the ends of the ints", x -> x.busy().refused("UNKNOWN", "op(-1, 1, 0, 0, 0); op(64, 1, 0, 0, 0)",
            "op(MIN, 1, 0, 0, 0); op(MAX, 1, 0, 0, 0)"));
        p.holds("UNKNOWN", "the first and the last PLACE are there", x -> x.see("op(0, 1, 0, 0, 0) = 0; op(63, 1, 0, 0, 0) = 0"));
        String three = "OUTSIDE: kind, r, s";
        p.holds(three, "kind", x -> x.busy().refused("OUTSIDE", "op(5, -1, 0, 0, 0); op(5, 13, 0, 0, 0); op(5, MIN, 0, 0, 0); op(5, MAX, 0, 0, 0)"));
        for (int kind = 0; kind <= 12; kind++) {
            String start = "op(11, " + kind + ", ";
            p.holds(three, "r and s of OP " + kind, x -> x.busy().refused("OUTSIDE", start + "-1, 0, 0)", start + "8, 0, 0)", start + "MIN, 0, 0)",
                start + "MAX, 0, 0)",
                start + "0, -1, 0)", start + "0, 8, 0)", start + "0, MIN, 0)", start + "0, MAX, 0)").see(start + "0, 7, 0) = 11")
                    .see(start + "7, 0, 0)"));
        }
        String target = "v of a BRANCH or 12 that is no PLACE.";
        for (int kind = 9; kind <= 12; kind++) {
            String start = "op(11, " + kind + ", 0, 0, ";
            p.holds(target, "OP " + kind, x -> x.busy().refused("OUTSIDE", start + "-1)", start + "64)", start + "MIN)", start + "MAX)")
                .see(start + "0) = 11").see(start + "63)"));
        }
        p.holds(target, "of the others it may be any", x -> x.each(0, 8,
            "op(#, #, 0, 0, 64) = 0; op(#, #, 0, 0, -1) = #; op(#, #, 0, 0, MIN) = #; op(#, #, 0, 0, MAX) = #"));
        p.everyWordIsQuoted();
    }

    private static void register() {
        Sentences p = new Sentences("Promise 3");
        p.holds("A REGISTER is told: 1.", "each of them", x -> x.each(0, 7, "register(#, 3#) = 1").each(0, 7, "value(#) = 3#"));
        p.holds("A REGISTER is told: 1.", "any int, more than once", x -> x.see("register(7, MIN) = 1; value(7) = MIN; register(7, MAX) = 1",
            "value(7) = MAX; register(7, 0) = 1; value(7) = 0"));
        p.holds("A REGISTER is told: 1.", "nothing else is changed", x -> x.see("register(3, 5) = 1; value(2) = 0; value(4) = 0; stored(3) = 0",
            "told(0) = 0; told(1) = 0"));
        p.holds("OUTSIDE: it is not 0 to 7.", "-1, 8 and the ends of the ints", x -> x.busy()
            .refused("OUTSIDE", "register(-1, 1); register(8, 1); register(MIN, 1); register(MAX, 1)"));
        p.everyWordIsQuoted();
    }

    private static void value() {
        Sentences p = new Sentences("Promise 4");
        p.holds("A REGISTER", "as told and as reckoned", x -> x.see("register(0, 6); register(7, 9); value(0) = 6; value(7) = 9; op(0, 2, 0, 7, 0)",
            "run(1); value(0) = 15; value(7) = 9"));
        p.holds("0: there is none.", "-1, 8 and the ends of the ints", x -> x.each(0, 7, "register(#, 5)")
            .refused("0", "value(-1); value(8); value(MIN); value(MAX)"));
        p.everyWordIsQuoted();
    }

    private static void data() {
        Sentences p = new Sentences("Promise 5");
        p.holds("DATA at a place (0 to 31) is told: 1.", "each of them", x -> x.each(0, 31, "data(#, 5#) = 1").each(0, 31, "stored(#) = 5#"));
        p.holds("DATA at a place (0 to 31) is told: 1.", "any int, more than once", x -> x.see("data(31, MIN) = 1; stored(31) = MIN",
            "data(31, MAX) = 1; stored(31) = MAX; data(31, 0) = 1; stored(31) = 0"));
        p.holds("DATA at a place (0 to 31) is told: 1.", "nothing else is changed", x -> x.see("data(3, 5) = 1; stored(2) = 0; stored(4) = 0",
            "value(3) = 0"));
        p.holds("OUTSIDE.", "-1, 32 and the ends of the ints", x -> x.busy().refused("OUTSIDE", "data(-1, 1); data(32, 1); data(MIN, 1)",
            "data(MAX, 1)"));
        p.everyWordIsQuoted();
    }

    private static void stored() {
        Sentences p = new Sentences("Promise 6");
        p.holds("DATA there", "as told and as an OP left it", x -> x.see("data(0, 6); data(31, 7); stored(0) = 6; stored(31) = 7; op(0, 8, 1, 2, 0)",
            "register(1, 8); register(2, 31); run(1); stored(31) = 8"));
        p.holds("0: there is none.", "-1, 32 and the ends of the ints", x -> x.each(0, 31, "data(#, 5)")
            .refused("0", "stored(-1); stored(32); stored(MIN); stored(MAX)"));
        p.everyWordIsQuoted();
    }

    private static void stand() {
        Sentences p = new Sentences("Promise 7");
        String words = "It stands at a PLACE: where it stood.";
        p.holds(words, "the first, the last, the same", x -> x.see("stand(63) = 0; told(0) = 63; stand(63) = 63; stand(0) = 63; stand(17) = 0",
            "told(0) = 17"));
        p.holds(words, "behind a run", x -> x.see("op(0, 12, 0, 0, 30); op(30, 1, 1, 0, 4); run(9) = 2; stand(5) = 31"));
        p.holds(words, "the next STEP is that PLACE's, and it is no STEP itself", x -> x.see("op(20, 1, 1, 0, 4); stand(20) = 0; told(1) = 0",
            "run(1) = 1; value(1) = 4; told(0) = 21"));
        p.holds("UNKNOWN.", "-1, 64 and the ends of the ints", x -> x.busy().refused("UNKNOWN", "stand(-1); stand(64); stand(MIN); stand(MAX)")
            .see("told(0) = 10"));
        p.everyWordIsQuoted();
    }

    private static void run() {
        Sentences p = new Sentences("Promise 8");
        String loop = "op(0, 2, 1, 2, 0); op(1, 12, 0, 0, 0); register(2, 1)";
        String steps = "n STEPS (0 to 2000)";
        p.holds(steps, "0", x -> x.see(loop, "run(0) = 0; told(1) = 0; told(0) = 0; value(1) = 0"));
        p.holds(steps, "1", x -> x.see(loop, "run(1) = 1; told(1) = 1; told(0) = 1; value(1) = 1; run(1) = 1; told(0) = 0; value(1) = 1"));
        p.holds(steps, "2000", x -> x.see(loop, "run(2000) = 2000; told(1) = 2000; told(0) = 0; value(1) = 1000; run(2000) = 2000; told(1) = 4000"));
        p.holds(steps, "1999", x -> x.see(loop, "run(1999) = 1999; told(0) = 1; value(1) = 1000"));
        String until = "until STOP";
        p.holds(until, "at once", x -> x.see("run(0) = 0; run(1) = 0; run(2000) = 0; told(0) = 0; told(1) = 0"));
        p.holds(until, "it stays there, and goes on from there when it is no STOP", x -> x.see("op(0, 1, 1, 0, 4); run(2000) = 1; told(0) = 1",
            "run(2000) = 0; told(0) = 1; op(1, 1, 1, 0, 5); run(2000) = 1; value(1) = 5; told(0) = 2"));
        String many = "how many (STOP is none).";
        p.holds(many, "STOP behind three", x -> x.see("op(0, 1, 1, 0, 4); op(1, 12, 0, 0, 40); op(40, 10, 0, 0, 50); run(4) = 3; told(1) = 3",
            "told(0) = 50; run(1) = 0; told(1) = 3"));
        p.holds(many, "no more than n, though no STOP came", x -> x.see("op(0, 1, 1, 0, 4); op(1, 1, 1, 0, 5); run(1) = 1; value(1) = 4; run(1) = 1",
            "value(1) = 5; run(1) = 0"));
        p.holds(many, "exactly up to STOP", x -> x.see("op(0, 1, 1, 0, 4); op(1, 1, 1, 0, 5); run(2) = 2; told(0) = 2"));
        p.holds("OUTSIDE.", "-1, 2001 and the ends of the ints", x -> x.see(loop).refused("OUTSIDE", "run(-1); run(2001); run(MIN); run(MAX)")
            .see("told(1) = 0; value(1) = 0; told(0) = 0"));
        p.everyWordIsQuoted();
    }

    private static void branch() {
        Sentences p = new Sentences("Promise 9");
        String words = "A BRANCH by hand: how many there were ever.";
        p.holds(words, "from 1 on", x -> x.see("branch(0, 0) = 1; branch(63, 1) = 2; branch(63, 1) = 3; told(2) = 3; told(3) = 3; at(0, 0) = 0",
            "at(2, 0) = 63; at(2, 1) = 1"));
        p.holds(words, "those by STEPS, too", x -> x.see("op(0, 10, 0, 0, 0); run(4) = 4; branch(7, 1) = 5"));
        p.holds(words, "those that were emptied, too", x -> x.ways(3, "01").see("empty() = 2; branch(7, 1) = 3; told(3) = 1"));
        p.holds(words, "those that are not kept, too", x -> x.see("op(0, 10, 0, 0, 0); run(2000); run(1000); branch(7, 1) = 3001",
            "branch(7, 1) = 3002; told(3) = 3000"));
        p.holds(words, "THE MACHINE stays as it is", x -> x.see("op(7, 10, 0, 0, 20)").ways(7, "01").see("told(0) = 0; told(1) = 0; value(0) = 0"));
        p.holds(words, "each GUESSER is asked", x -> x.busy().see("branch(3, 1) = 10").each(0, 7, "asked(#) = 10"));
        p.holds("UNKNOWN", "-1, 64 and the ends of the ints", x -> x.busy().refused("UNKNOWN", "branch(-1, 1); branch(64, 0); branch(MIN, 0)",
            "branch(MAX, 1)").see("told(2) = 9; branch(0, 0) = 10"));
        p.holds("OUTSIDE: WAY.", "-1, 2 and the ends of the ints", x -> x.busy().refused("OUTSIDE", "branch(3, -1); branch(3, 2); branch(3, MIN)",
            "branch(3, MAX)").see("told(2) = 9; branch(0, 0) = 10"));
        p.everyWordIsQuoted();
    }

    private static void at() {
        Sentences p = new Sentences("Promise 10");
        p.holds("Of BRANCH i of THE ROW", "first, middle and last", x -> x.ways(9, "1").ways(63, "0").ways(0, "1")
            .see("at(0, 0) = 9; at(1, 0) = 63; at(2, 0) = 0; at(0, 1) = 1; at(1, 1) = 0; at(2, 1) = 1"));
        p.holds("Of BRANCH i of THE ROW", "counted from the last empty() on", x -> x.ways(9, "1").see("empty()").ways(8, "0")
            .see("at(0, 0) = 8; at(0, 1) = 0; at(1, 0) = UNKNOWN"));
        p.holds("0 the PLACE", "PLACES 0 and 63", x -> x.ways(0, "1").ways(63, "0").see("at(0, 0) = 0; at(1, 0) = 63"));
        p.holds("1 the WAY.", "both", x -> x.ways(0, "1").ways(63, "0").see("at(0, 1) = 1; at(1, 1) = 0"));
        p.holds("UNKNOWN", "one below, one behind the last, the ends of the ints", x -> x.busy().see("at(8, 0) = 3")
            .refused("UNKNOWN", "at(9, 0); at(9, 1); at(-1, 0); at(-1, 1); at(MIN, 1); at(MAX, 0)"));
        p.holds("UNKNOWN", "an empty ROW", x -> x.refused("UNKNOWN", "at(0, 0); at(0, 1); at(-1, 0)").busy().see("empty() = 9")
            .refused("UNKNOWN", "at(0, 0); at(0, 1)"));
        p.holds("UNKNOWN", "a full ROW", x -> x.see("op(0, 10, 0, 0, 0); run(2000); run(2000); at(2999, 1) = 1")
            .refused("UNKNOWN", "at(3000, 1); at(3999, 0)"));
        p.holds("OUTSIDE.", "what is neither 0 nor 1", x -> x.busy().refused("OUTSIDE", "at(0, 2); at(8, -1); at(0, MIN); at(0, MAX)"));
        p.everyWordIsQuoted();
    }
}
