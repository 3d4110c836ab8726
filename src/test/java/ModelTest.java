import java.util.Arrays;
import java.util.Random;

/** Long runs of mixed calls, right and wrong ones, each answered by WayGuesses and by Model alike. */
public final class ModelTest {
    private static final int CALLS = 512;
    private static final int[] WILD = {Integer.MIN_VALUE, Integer.MAX_VALUE, -1001, -1000, -64, -6, -2, -1, 0, 1, 2, 3, 4,
        5, 6, 7, 8, 9, 31, 32, 40, 50, 51, 63, 64, 100, 101, 255, 256, 1999, 2000, 2001, 2999, 3000};

    private final Random random;
    private final WayGuesses real = new WayGuesses();
    private final Model model = new Model();
    private final StringBuilder told = new StringBuilder();
    private final int placesUsed;
    private final int mostSteps;
    private final int wildness;
    private int calls = 0;

    private ModelTest(long seed, int placesUsed, int mostSteps, int wildness) {
        random = new Random(seed);
        this.placesUsed = placesUsed;
        this.mostSteps = mostSteps;
        this.wildness = wildness;
    }

    private int in(int least, int most) {
        if (random.nextInt(1000) < wildness) return WILD[random.nextInt(WILD.length)];
        return least + random.nextInt(most - least + 1);
    }

    private int place() {
        return in(0, placesUsed - 1);
    }

    private int g() {
        return in(0, Math.max(0, model.guessers.size() - 1));
    }

    private void same(String name, int got, int want, int... args) {
        String call = name + Arrays.toString(args);
        calls++;
        told.append(call).append(" -> ").append(want).append('\n');
        Check.due(call, got, want);
    }

    private void writeOp() {
        int[] a = {place(), in(0, 12), in(0, 7), in(0, 7), place()};
        same("op", real.op(a[0], a[1], a[2], a[3], a[4]), model.op(a[0], a[1], a[2], a[3], a[4]), a);
    }

    private void addGuesser() {
        int kind = in(0, 7);
        int[] a = {kind, in(0, 4), in(0, 5), in(0, 6)};
        if (kind == 2 || kind == 3) a[1] = in(0, 8);
        if (kind == 2 || kind == 3 || kind == 5) a[2] = in(0, 8);
        if (kind == 3) a[3] = in(0, 1);
        if (kind == 5) a[3] = in(0, 50);
        if (kind == 7) a[1] = g();
        if (kind == 7) a[2] = g();
        same("guesser", real.guesser(a[0], a[1], a[2], a[3]), model.guesser(a[0], a[1], a[2], a[3]), a);
    }

    private void machineCall(int which) {
        int x = in(0, 7), i = in(0, 31), v = in(-3, 9), p = place(), n = in(0, mostSteps), way = in(0, 1);
        switch (which) {
            case 0: writeOp(); break;
            case 1: same("register", real.register(x, v), model.register(x, v), x, v); break;
            case 2: same("value", real.value(x), model.value(x), x); break;
            case 3: same("data", real.data(i, v), model.data(i, v), i, v); break;
            case 4: same("stored", real.stored(i), model.stored(i), i); break;
            case 5: same("stand", real.stand(p), model.stand(p), p); break;
            case 6: same("run", real.run(n), model.run(n), n); break;
            case 7: same("branch", real.branch(p, way), model.branch(p, way), p, way); break;
            default:
                i = in(0, Math.max(0, model.row.size()));
                same("at", real.at(i, way), model.at(i, way), i, way);
        }
    }

    private void guesserCall(int which) {
        int g = g(), p = place(), way = in(-1, 1), i = in(0, 9), k = in(0, 1), t = in(0, 2);
        switch (which) {
            case 0: same("guess", real.guess(g, p), model.guess(g, p), g, p); break;
            case 1: same("hint", real.hint(g, p, way), model.hint(g, p, way), g, p, way); break;
            case 2: same("profile", real.profile(g), model.profile(g), g); break;
            case 3: same("misses", real.misses(g, p), model.misses(g, p), g, p); break;
            case 4: same("misses", real.misses(g, -1), model.misses(g, -1), g, -1); break;
            case 5: same("asked", real.asked(g), model.asked(g), g); break;
            case 6: same("clashes", real.clashes(g), model.clashes(g), g); break;
            case 7: same("pair", real.pair(g, i), model.pair(g, i), g, i); break;
            case 8: same("fresh", real.fresh(g), model.fresh(g), g); break;
            case 9: same("again", real.again(g), model.again(g), g); break;
            case 10: same("keep", real.keep(g, k), model.keep(g, k), g, k); break;
            case 11: same("back", real.back(g, k), model.back(g, k), g, k); break;
            default:
                int table = random.nextBoolean() ? t : p;
                int spot = random.nextInt(4) == 0 ? in(0, 255) : i;
                same("inside", real.inside(g, table, spot), model.inside(g, table, spot), g, table, spot);
        }
    }

    private void couldBeCall(int which) {
        int n = in(0, 8), p = place(), way = in(-1, 1), g = g(), c = in(0, 100), what = in(0, 4);
        boolean own = random.nextBoolean();
        switch (which) {
            case 0: same("best", real.best(n, own), model.best(n, own), n, own ? 1 : 0); break;
            case 1: same("seen", real.seen(n, own), model.seen(n, own), n, own ? 1 : 0); break;
            case 2: same("often", real.often(p, way), model.often(p, way), p, way); break;
            case 3: same("ticks", real.ticks(g, c), model.ticks(g, c), g, c); break;
            case 4: same("told", real.told(what), model.told(what), what); break;
            default: if (random.nextInt(8) == 0) same("empty", real.empty(), model.empty());
        }
    }

    private void call() {
        int pick = random.nextInt(100);
        if (pick < 34) machineCall(7);
        else if (pick < 40) machineCall(6);
        else if (pick < 52) machineCall(random.nextInt(9));
        else if (pick < 55) addGuesser();
        else if (pick < 92) guesserCall(random.nextInt(16));
        else couldBeCall(random.nextInt(6));
    }

    private boolean held(long seed) {
        int before = Check.wrongSoFar();
        int guessers = random.nextInt(9);
        for (int i = 0; i < guessers; i++) addGuesser();
        int ops = random.nextInt(2 * placesUsed + 1);
        for (int i = 0; i < Math.min(ops, 100); i++) writeOp();
        while (calls < CALLS && Check.wrongSoFar() == before) call();
        if (Check.wrongSoFar() == before) return true;
        System.out.println("seed " + seed + ", the calls so far:\n" + told);
        return false;
    }

    // More BRANCHES than THE ROW keeps: a loop of one BRANCH and a count, run to the end of it.
    private boolean heldLong(long seed) {
        int[][] program = {{0, 2, 1, 2, 0}, {1, 1, 3, 0, 5}, {2, 5, 3, 1, 0}, {3, 11, 3, 0, 0}, {4, 9, 1, 4, 0},
            {5, 12, 0, 0, 0}};
        for (int[] o : program) same("op", real.op(o[0], o[1], o[2], o[3], o[4]), model.op(o[0], o[1], o[2], o[3], o[4]), o);
        same("register", real.register(2, 1), model.register(2, 1), 2, 1);
        same("register", real.register(4, 700), model.register(4, 700), 4, 700);
        for (int i = 0; i < 8; i++) addGuesser();
        for (int i = 0; i < 5; i++) same("run", real.run(2000), model.run(2000), 2000);
        for (int n = 0; n < 9; n += 4) {
            same("best", real.best(n, n == 4), model.best(n, n == 4), n);
            same("seen", real.seen(n, n == 4), model.seen(n, n == 4), n);
        }
        for (int g = 0; g < model.guessers.size(); g++) {
            same("misses", real.misses(g, -1), model.misses(g, -1), g, -1);
            same("again", real.again(g), model.again(g), g);
            same("profile", real.profile(g), model.profile(g), g);
        }
        return held(seed);
    }

    // WAYS that are nearly always alike, but by no rule that WEIGHTS can learn, bring weights to their ends.
    private void weightsAtTheirEnds(int threshold, int end) {
        int[][] program = {{0, 4, 1, 2, 0}, {1, 2, 1, 3, 0}, {2, 9, 1, 4, 0}, {3, 12, 0, 0, 0}};
        for (int[] o : program) same("op", real.op(o[0], o[1], o[2], o[3], o[4]), model.op(o[0], o[1], o[2], o[3], o[4]), o);
        int[] numbers = {0, 1, 1103515245, 12345, threshold};
        for (int r = 1; r < 5; r++) same("register", real.register(r, numbers[r]), model.register(r, numbers[r]), r, numbers[r]);
        same("guesser", real.guesser(5, 0, 8, 50), model.guesser(5, 0, 8, 50), 5, 0, 8, 50);
        int reached = 0;
        for (int i = 0; i < 20; i++) {
            same("run", real.run(2000), model.run(2000), 2000);
            for (int w = 0; w < 9; w++) {
                same("inside", real.inside(0, 0, w), model.inside(0, 0, w), 0, 0, w);
                if (real.inside(0, 0, w) == end) reached++;
            }
        }
        Check.that("a weight came to " + end, reached > 0);
        same("misses", real.misses(0, -1), model.misses(0, -1), 0, -1);
    }

    public static void main(String[] args) {
        int objects = args.length > 0 ? Integer.parseInt(args[0]) : 1200;
        for (int seed = 0; seed < objects; seed++) {
            int places = new int[] {2, 4, 9, 64}[seed % 4];
            ModelTest test = new ModelTest(seed, places, seed % 3 == 0 ? 60 : 12, seed % 5 == 0 ? 120 : 12);
            if (!test.held(seed)) break;
        }
        for (int seed = 0; seed < objects / 200; seed++) {
            if (!new ModelTest(-1 - seed, 6, 40, 5).heldLong(-1 - seed)) break;
        }
        new ModelTest(0, 1, 1, 0).weightsAtTheirEnds(1900000000, 63);
        new ModelTest(0, 1, 1, 0).weightsAtTheirEnds(-1900000000, -64);
        Check.end("ModelTest");
    }
}
