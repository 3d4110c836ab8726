/** Promises 1 to 10 and section 1 of the terms. */
public final class MachineTest {
    private static final int MIN = Integer.MIN_VALUE, MAX = Integer.MAX_VALUE;
    private static final int UNKNOWN = -1, OUTSIDE = -2;

    public static void main(String[] args) {
        newObject();
        op();
        opRefused();
        register();
        data();
        stand();
        reckoning();
        dataOps();
        below();
        alikeAndNotZero();
        jumpsAndTheEnd();
        run();
        branch();
        at();
        rowIsFull();
        Check.end("MachineTest");
    }

    private static void newObject() {
        Bench x = new Bench("1 a new object");
        for (int r = 0; r < 8; r++) x.due("value(" + r + ")", 0);
        for (int i = 0; i < 32; i++) x.due("stored(" + i + ")", 0);
        for (int what = 0; what < 5; what++) x.due("told(" + what + ")", 0);
        for (int place = 0; place < 64; place++) x.due("often(" + place + ", -1)", 0);
        x.due("run(2000)", 0).due("told(0)", 0).due("told(1)", 0);
        x.dueAll(UNKNOWN, "at(0, 0)", "at(0, 1)", "asked(0)", "guess(0, 0)");
        x.dueAll(0, "best(8, true)", "seen(8, false)", "empty()");
        for (int place = 0; place < 64; place++) x.due("op(" + place + ", 0, 0, 0, 0)", 0);
        Bench y = new Bench("1 two objects share nothing").after("register(1, 5)", "branch(3, 1)", "guesser(1, 0, 0, 0)");
        new Bench("1 the other object").due("value(1)", 0).due("told(3)", 0).due("told(4)", 0).due("branch(0, 0)", 1);
        y.due("value(1)", 5).due("told(3)", 1);
    }

    private static void op() {
        Bench x = new Bench("2 op");
        int before = 0;
        for (int kind = 0; kind <= 12; kind++) {
            x.due("op(63, " + kind + ", 7, 7, 63)", before);
            before = kind;
        }
        x.due("op(63, 0, 0, 0, 0)", 12).due("op(0, 12, 0, 0, 0)", 0).due("op(0, 1, 0, 0, " + MIN + ")", 12);
        for (int kind = 0; kind <= 8; kind++) x.after("op(1, " + kind + ", 0, 0, 64)").due("op(1, " + kind + ", 0, 0, -1)", kind);
    }

    private static void opRefused() {
        Bench x = new Bench("2 op refused").after("op(5, 12, 0, 0, 9)", "stand(5)");
        x.dueAll(UNKNOWN, "op(-1, 1, 0, 0, 0)", "op(64, 1, 0, 0, 0)", "op(" + MIN + ", 1, 0, 0, 0)",
            "op(" + MAX + ", 13, 8, 8, 64)", "op(-1, 13, -1, 8, 64)");
        x.dueAll(OUTSIDE, "op(5, -1, 0, 0, 0)", "op(5, 13, 0, 0, 0)", "op(5, " + MIN + ", 0, 0, 0)", "op(5, " + MAX + ", 0, 0, 0)",
            "op(5, 1, 8, 0, 0)", "op(5, 1, -1, 0, 0)", "op(5, 1, 0, 8, 0)", "op(5, 1, 0, -1, 0)", "op(5, 0, 8, 0, 0)",
            "op(5, 0, 0, " + MAX + ", 0)", "op(5, 12, 8, 0, 0)", "op(5, 11, 0, 8, 0)", "op(5, 6, " + MIN + ", 0, 0)");
        for (int kind = 9; kind <= 12; kind++) {
            x.dueAll(OUTSIDE, "op(5, " + kind + ", 0, 0, 64)", "op(5, " + kind + ", 0, 0, -1)",
                "op(5, " + kind + ", 0, 0, " + MIN + ")", "op(5, " + kind + ", 0, 0, " + MAX + ")");
        }
        x.due("run(1)", 1).due("told(0)", 9).due("op(5, 0, 0, 0, 0)", 12);
    }

    private static void register() {
        Bench x = new Bench("3 register, 4 value");
        for (int r = 0; r < 8; r++) x.due("register(" + r + ", " + (r * 7 - 3) + ")", 1);
        for (int r = 0; r < 8; r++) x.due("value(" + r + ")", r * 7 - 3);
        x.due("register(7, " + MIN + ")", 1).due("value(7)", MIN).due("register(0, " + MAX + ")", 1).due("value(0)", MAX);
        x.dueAll(OUTSIDE, "register(-1, 1)", "register(8, 1)", "register(" + MIN + ", 1)", "register(" + MAX + ", 1)");
        x.dueAll(0, "value(-1)", "value(8)", "value(" + MIN + ")", "value(" + MAX + ")", "stored(0)", "told(0)", "told(1)");
        x.due("value(7)", MIN).due("value(0)", MAX).due("value(6)", 39);
    }

    private static void data() {
        Bench x = new Bench("5 data, 6 stored");
        for (int i = 0; i < 32; i++) x.due("data(" + i + ", " + (100 - i) + ")", 1);
        for (int i = 0; i < 32; i++) x.due("stored(" + i + ")", 100 - i);
        x.dueAll(OUTSIDE, "data(-1, 1)", "data(32, 1)", "data(" + MIN + ", 1)", "data(" + MAX + ", 1)");
        x.dueAll(0, "stored(-1)", "stored(32)", "stored(" + MIN + ")", "stored(" + MAX + ")", "value(0)");
        x.due("stored(0)", 100).due("stored(31)", 69).due("data(31, " + MIN + ")", 1).due("stored(31)", MIN);
    }

    private static void stand() {
        Bench x = new Bench("7 stand");
        x.due("stand(63)", 0).due("told(0)", 63).due("stand(63)", 63).due("stand(0)", 63).due("stand(17)", 0);
        x.dueAll(UNKNOWN, "stand(64)", "stand(-1)", "stand(" + MIN + ")", "stand(" + MAX + ")");
        x.due("told(0)", 17).due("told(1)", 0).due("stand(0)", 17);
    }

    /** One OP at PLACE 0 with registers 1 and 2, then what register 1 is. */
    private static void reckoned(int kind, int one, int two, int want) {
        Bench x = new Bench("1 op " + kind + " of " + one + " and " + two);
        x.after("op(0, " + kind + ", 1, 2, 77)", "register(1, " + one + ")", "register(2, " + two + ")");
        x.due("run(5)", 1).due("value(1)", want).due("value(2)", two).due("told(0)", 1).due("told(1)", 1);
        x.due("value(0)", 0).due("value(3)", 0).due("stored(0)", 0).due("told(2)", 0);
    }

    private static void reckoning() {
        reckoned(1, 5, 6, 77);
        reckoned(2, 5, 6, 11);
        reckoned(2, MAX, 1, MIN);
        reckoned(3, 5, 6, -1);
        reckoned(3, MIN, 1, MAX);
        reckoned(4, -5, 6, -30);
        reckoned(4, 65536, 65536, 0);
        reckoned(4, MIN, -1, MIN);
        reckoned(5, 12, 10, 8);
        reckoned(5, -1, 65, 65);
        reckoned(6, 9, 3, 4);
        reckoned(6, -1, 3, MAX);
        reckoned(6, 0, 3, 0);
        Bench x = new Bench("1 r and s alike").after("op(0, 2, 3, 3, 0)", "op(1, 4, 3, 3, 0)", "register(3, 5)");
        x.due("run(1)", 1).due("value(3)", 10).due("run(1)", 1).due("value(3)", 100);
        x.after("op(2, 3, 3, 3, 0)").due("run(1)", 1).due("value(3)", 0);
    }

    private static void dataOps() {
        Bench x = new Bench("1 ops 7 and 8").after("op(0, 7, 1, 2, 0)", "op(1, 8, 3, 4, 0)", "data(31, 44)", "data(1, 45)");
        x.after("register(2, -1)", "register(4, 33)", "register(3, 6)");
        x.due("run(2)", 2).due("value(1)", 44).due("stored(1)", 6).due("stored(31)", 44).due("value(4)", 33);
        x.after("stand(0)", "register(2, 65)", "register(4, " + MIN + ")").due("run(9)", 2);
        x.due("value(1)", 6).due("stored(0)", 6).due("stored(1)", 6).due("value(3)", 6);
        x.after("op(0, 8, 5, 5, 0)", "register(5, 39)", "stand(0)").due("run(1)", 1).due("stored(7)", 39);
        x.after("op(0, 7, 5, 5, 0)", "data(7, 12)", "stand(0)").due("run(1)", 1).due("value(5)", 12);
    }

    /** A BRANCH at PLACE 10 to 40: where it goes, and that THE ROW has it. */
    private static void branched(int kind, int one, int two, int way) {
        Bench x = new Bench("1 branch " + kind + " of " + one + " and " + two);
        x.after("op(10, " + kind + ", 1, 2, 40)", "register(1, " + one + ")", "register(2, " + two + ")", "stand(10)");
        x.due("run(7)", 1).due("told(0)", way == 1 ? 40 : 11).due("told(2)", 1).due("told(3)", 1).due("told(1)", 1);
        x.due("at(0, 0)", 10).due("at(0, 1)", way).due("value(1)", one).due("value(2)", two);
    }

    private static void below() {
        branched(9, 1, 2, 1);
        branched(9, 2, 2, 0);
        branched(9, 3, 2, 0);
        branched(9, -1, 0, 1);
        branched(9, MIN, MAX, 1);
        branched(9, MAX, MIN, 0);
    }

    private static void alikeAndNotZero() {
        branched(10, 2, 2, 1);
        branched(10, 2, 3, 0);
        branched(10, 3, 2, 0);
        branched(11, 0, 5, 0);
        branched(11, 1, 0, 1);
        branched(11, MIN, 0, 1);
    }

    private static void jumpsAndTheEnd() {
        Bench x = new Bench("1 jump, and behind 63 comes 0").after("op(63, 1, 1, 0, 8)", "stand(63)");
        x.due("run(9)", 1).due("told(0)", 0).after("op(0, 12, 0, 0, 63)");
        x.due("run(4)", 4).due("told(0)", 0).due("told(2)", 0).due("value(1)", 8);
        x.after("op(63, 11, 2, 0, 7)", "stand(63)").due("run(1)", 1).due("told(0)", 0).due("at(0, 1)", 0).due("told(2)", 1);
        x.after("op(0, 0, 0, 0, 0)").due("run(3)", 0).due("told(0)", 0).due("told(1)", 6);
        x.after("op(5, 10, 0, 0, 5)", "stand(5)").due("run(3)", 3).due("told(0)", 5).due("told(2)", 4);
    }

    private static void run() {
        Bench x = new Bench("8 run").after("op(0, 2, 1, 2, 0)", "op(1, 12, 0, 0, 0)", "register(2, 1)");
        x.due("run(0)", 0).due("told(1)", 0).due("run(1)", 1).due("told(0)", 1).due("value(1)", 1);
        x.due("run(2000)", 2000).due("told(1)", 2001).due("value(1)", 1001).due("told(0)", 1);
        x.dueAll(OUTSIDE, "run(-1)", "run(2001)", "run(" + MIN + ")", "run(" + MAX + ")");
        x.due("told(1)", 2001).due("value(1)", 1001).due("told(0)", 1);
        x.after("op(1, 0, 0, 0, 0)").due("run(2000)", 0).due("told(1)", 2001).due("told(0)", 1);
        x.after("stand(0)").due("run(2000)", 1).due("told(0)", 1).due("told(1)", 2002);
    }

    private static void branch() {
        Bench x = new Bench("9 branch").after("guesser(0, 1, 0, 0)");
        x.due("branch(0, 0)", 1).due("branch(63, 1)", 2).due("branch(63, 1)", 3);
        x.dueAll(UNKNOWN, "branch(64, 0)", "branch(-1, 1)", "branch(64, 2)", "branch(" + MIN + ", 9)");
        x.dueAll(OUTSIDE, "branch(0, 2)", "branch(0, -1)", "branch(63, " + MAX + ")");
        x.due("told(2)", 3).due("told(3)", 3).due("asked(0)", 3).due("misses(0, -1)", 1).due("told(0)", 0).due("told(1)", 0);
        x.after("op(0, 10, 0, 0, 0)").due("run(4)", 4).due("branch(7, 1)", 8).due("told(1)", 4);
        x.due("empty()", 8).due("branch(7, 1)", 9).due("told(3)", 1);
    }

    private static void at() {
        Bench x = new Bench("10 at").after("branch(9, 1)", "branch(63, 0)", "branch(0, 1)");
        x.due("at(0, 0)", 9).due("at(0, 1)", 1).due("at(1, 0)", 63).due("at(1, 1)", 0).due("at(2, 0)", 0).due("at(2, 1)", 1);
        x.dueAll(UNKNOWN, "at(3, 0)", "at(-1, 0)", "at(" + MIN + ", 1)", "at(" + MAX + ", 1)", "at(3, 2)");
        x.dueAll(OUTSIDE, "at(0, 2)", "at(2, -1)", "at(1, " + MAX + ")", "at(1, " + MIN + ")");
        x.after("empty()").dueAll(UNKNOWN, "at(0, 0)", "at(0, 5)");
    }

    private static void rowIsFull() {
        Bench x = new Bench("the row keeps 3000").after("op(2, 10, 0, 0, 2)", "stand(2)", "guesser(0, 0, 0, 0)");
        x.due("run(2000)", 2000).due("run(999)", 999).due("told(3)", 2999).due("branch(5, 0)", 3000).due("branch(6, 1)", 3001);
        x.due("told(3)", 3000).due("told(2)", 3001).due("at(2999, 0)", 5).due("at(3000, 0)", UNKNOWN).due("often(6, -1)", 0);
        x.due("asked(0)", 3001).due("misses(0, 6)", 1).due("misses(0, 2)", 2999).due("run(5)", 5).due("told(2)", 3006);
        x.due("often(2, 1)", 2999).due("again(0)", 2999).due("asked(0)", 3000).due("best(8, false)", 0);
        x.due("empty()", 3000).due("branch(6, 1)", 3007).due("told(3)", 1).due("at(0, 0)", 6);
    }
}
