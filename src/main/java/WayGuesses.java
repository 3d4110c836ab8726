import java.util.Arrays;

public final class WayGuesses {
    public static final int NONE = -6, UNKNOWN = -1, OUTSIDE = -2, STATE = -3, FULL = -4, NO = -5;

    private static final int PLACES = 64;
    private static final int LAST_PLACE = PLACES - 1;
    private static final int REGISTERS = 8;
    private static final int DATA = 32;
    private static final int MOST_STEPS = 2000;
    private static final int MOST_KEPT = 3000;
    private static final int MOST_GUESSERS = 8;
    private static final int MOST_PAIRS = 40;
    private static final int MOST_HISTORY = 8;
    private static final int MOST_COST = 100;
    private static final int KEEPS = 2;
    private static final int NO_HINT = -1;
    private static final int ALL = -1;

    private static final int OP_STOP = 0, OP_FIRST_BRANCH = 9, OP_BELOW = 9, OP_ALIKE = 10, OP_JUMP = 12;

    private static final int KIND_FIXED = 0, KIND_COUNTERS = 1, KIND_MIXED = 2, KIND_OWN = 3;
    private static final int KIND_VOTES = 4, KIND_WEIGHTS = 5, KIND_LOOPS = 6, KIND_CHOOSER = 7;

    // inside() may answer any small number, so its refusals lie far below them.
    private static final int INSIDE_UNKNOWN = -1000, INSIDE_NO = -1001;

    private final Machine machine;
    private final Row row;
    private final Guesser[] guessers;
    private int guesserCount;
    private int branchesEver;

    public WayGuesses() {
        machine = new Machine();
        row = new Row();
        guessers = new Guesser[MOST_GUESSERS];
    }

    // ---- 1 the machine

    public int op(int place, int kind, int r, int s, int v) {
        if (!isPlace(place)) return UNKNOWN;
        if (!within(kind, 0, OP_JUMP) || !isRegister(r) || !isRegister(s)) return OUTSIDE;
        if (kind >= OP_FIRST_BRANCH && !isPlace(v)) return OUTSIDE;
        int before = machine.kinds[place];
        machine.write(place, kind, r, s, v);
        return before;
    }

    public int register(int r, int v) {
        if (!isRegister(r)) return OUTSIDE;
        machine.registers[r] = v;
        return 1;
    }

    public int value(int r) {
        return isRegister(r) ? machine.registers[r] : 0;
    }

    public int data(int i, int v) {
        if (!isData(i)) return OUTSIDE;
        machine.memory[i] = v;
        return 1;
    }

    public int stored(int i) {
        return isData(i) ? machine.memory[i] : 0;
    }

    public int stand(int place) {
        if (!isPlace(place)) return UNKNOWN;
        int before = machine.standing;
        machine.standing = place;
        return before;
    }

    public int run(int n) {
        if (!within(n, 0, MOST_STEPS)) return OUTSIDE;
        for (int done = 0; done < n; done++) {
            int place = machine.standing;
            int outcome = machine.step();
            if (outcome == Machine.STOPPED) return done;
            if (outcome != Machine.PLAIN) meet(place, outcome);
        }
        return n;
    }

    public int branch(int place, int way) {
        if (!isPlace(place)) return UNKNOWN;
        if (!isWay(way)) return OUTSIDE;
        meet(place, way);
        return branchesEver;
    }

    public int at(int i, int what) {
        if (!within(i, 0, row.size - 1)) return UNKNOWN;
        if (what == 0) return row.placeOf(i);
        if (what == 1) return row.wayOf(i);
        return OUTSIDE;
    }

    // ---- 2 guessers

    public int guesser(int kind, int a, int b, int c) {
        if (kind == KIND_CHOOSER && !(isGuesser(a) && isGuesser(b))) return UNKNOWN;
        if (!fits(kind, a, b, c)) return OUTSIDE;
        if (guesserCount >= MOST_GUESSERS) return FULL;
        guessers[guesserCount] = made(kind, a, b, c);
        guesserCount++;
        return guesserCount - 1;
    }

    public int guess(int g, int place) {
        if (!isGuesser(g) || !isPlace(place)) return UNKNOWN;
        // A CHOOSER looks at what lesser numbers said last, so these speak first.
        for (int i = 0; i <= g; i++) guessers[i].say(place);
        return guessers[g].said;
    }

    public int hint(int g, int place, int way) {
        if (!isGuesser(g) || !isPlace(place)) return UNKNOWN;
        if (way != NO_HINT && !isWay(way)) return OUTSIDE;
        int[] hints = guessers[g].hints;
        int before = hints[place];
        hints[place] = way;
        return before;
    }

    public int profile(int g) {
        if (!isGuesser(g)) return UNKNOWN;
        int[] hints = guessers[g].hints;
        int hinted = 0;
        for (int place = 0; place < PLACES; place++) {
            hints[place] = row.usualWay(place);
            if (hints[place] != NO_HINT) hinted++;
        }
        return hinted;
    }

    public int misses(int g, int place) {
        if (!isGuesser(g)) return UNKNOWN;
        if (place == ALL) return guessers[g].now.missed;
        return isPlace(place) ? guessers[g].now.missedAt[place] : UNKNOWN;
    }

    public int asked(int g) {
        return isGuesser(g) ? guessers[g].now.asked : UNKNOWN;
    }

    public int clashes(int g) {
        if (!isGuesser(g)) return UNKNOWN;
        return guessers[g].canClash() ? guessers[g].now.clashed : NO;
    }

    public int pair(int g, int i) {
        if (!isGuesser(g)) return UNKNOWN;
        if (!guessers[g].canClash()) return NO;
        Learnt now = guessers[g].now;
        return within(i, 0, now.pairCount - 1) ? now.pairs[i] : NONE;
    }

    public int inside(int g, int t, int i) {
        return isGuesser(g) ? guessers[g].look(t, i) : INSIDE_UNKNOWN;
    }

    public int fresh(int g) {
        if (!isGuesser(g)) return UNKNOWN;
        int before = guessers[g].now.asked;
        guessers[g].forget();
        return before;
    }

    public int again(int g) {
        if (!isGuesser(g)) return UNKNOWN;
        int group = groupOf(g);
        for (int i = 0; i <= g; i++) {
            if (isIn(group, i)) guessers[i].forget();
        }
        for (int k = 0; k < row.size; k++) {
            int place = row.placeOf(k);
            int way = row.wayOf(k);
            for (int i = 0; i <= g; i++) {
                if (isIn(group, i)) guessers[i].meetBranch(place, way);
            }
        }
        return guessers[g].now.missed;
    }

    public int keep(int g, int k) {
        if (!isGuesser(g) || !within(k, 0, KEEPS - 1)) return UNKNOWN;
        Learnt[] kept = guessers[g].kept;
        if (kept[k] == null) kept[k] = guessers[g].now.twin();
        kept[k].take(guessers[g].now);
        return 1;
    }

    public int back(int g, int k) {
        if (!isGuesser(g) || !within(k, 0, KEEPS - 1)) return UNKNOWN;
        Learnt kept = guessers[g].kept[k];
        if (kept == null) return UNKNOWN;
        guessers[g].now.take(kept);
        return kept.asked;
    }

    // ---- 3 what could be

    public int best(int n, boolean own) {
        if (!within(n, 0, MOST_HISTORY)) return OUTSIDE;
        row.survey(n, own);
        return row.leastMisses;
    }

    public int seen(int n, boolean own) {
        if (!within(n, 0, MOST_HISTORY)) return OUTSIDE;
        row.survey(n, own);
        return row.unlike;
    }

    public int often(int place, int way) {
        if (!isPlace(place)) return UNKNOWN;
        if (way == ALL) return row.count(place, 0) + row.count(place, 1);
        return isWay(way) ? row.count(place, way) : OUTSIDE;
    }

    public int ticks(int g, int c) {
        if (!isGuesser(g)) return UNKNOWN;
        if (!within(c, 0, MOST_COST)) return OUTSIDE;
        return machine.steps + c * guessers[g].now.missed;
    }

    public int told(int what) {
        switch (what) {
            case 0: return machine.standing;
            case 1: return machine.steps;
            case 2: return branchesEver;
            case 3: return row.size;
            case 4: return guesserCount;
            default: return OUTSIDE;
        }
    }

    public int empty() {
        int before = row.size;
        row.clear();
        return before;
    }

    // ---- help for the calls

    private static boolean within(int number, int least, int most) {
        return number >= least && number <= most;
    }

    private static boolean isPlace(int place) {
        return within(place, 0, LAST_PLACE);
    }

    private static boolean isRegister(int r) {
        return within(r, 0, REGISTERS - 1);
    }

    private static boolean isData(int i) {
        return within(i, 0, DATA - 1);
    }

    private static boolean isWay(int way) {
        return way == 0 || way == 1;
    }

    private static boolean isIn(int group, int number) {
        return ((group >> number) & 1) == 1;
    }

    private static int lowBits(int n) {
        return (1 << n) - 1;
    }

    private boolean isGuesser(int g) {
        return within(g, 0, guesserCount - 1);
    }

    private void meet(int place, int way) {
        branchesEver++;
        row.add(place, way);
        for (int i = 0; i < guesserCount; i++) guessers[i].meetBranch(place, way);
    }

    private static boolean fits(int kind, int a, int b, int c) {
        switch (kind) {
            case KIND_FIXED: return within(a, 0, 2);
            case KIND_COUNTERS: return within(a, 0, 6);
            case KIND_MIXED: return within(a, 0, 8) && within(b, 0, 8);
            case KIND_OWN: return within(a, 0, 8) && within(b, 0, 8) && within(c, 0, 1);
            case KIND_VOTES: return within(a, 1, 7) && within(b, 1, 4);
            case KIND_WEIGHTS: return within(a, 0, 4) && within(b, 1, 8) && within(c, 0, 50);
            case KIND_LOOPS: return within(a, 1, 3);
            case KIND_CHOOSER: return within(c, 0, 6);
            default: return false;
        }
    }

    private Guesser made(int kind, int a, int b, int c) {
        switch (kind) {
            case KIND_COUNTERS: return new Counters(a, 0, false, 1);
            case KIND_MIXED: return new Counters(a, b, false, 1);
            case KIND_OWN: return new Counters(a, b, true, c);
            case KIND_VOTES: return new Votes(a, b);
            case KIND_WEIGHTS: return new Weights(a, b, c);
            case KIND_LOOPS: return new Loops(a);
            case KIND_CHOOSER: return new Chooser(guessers[a], guessers[b], (1 << a) | (1 << b), c);
            default: return new Fixed(machine, a);
        }
    }

    // A CHOOSER asks lesser numbers only, so one pass downwards finds all that are asked.
    private int groupOf(int g) {
        int group = 1 << g;
        for (int i = g; i >= 0; i--) {
            if (isIn(group, i)) group |= guessers[i].asks();
        }
        return group;
    }

    private static final class Machine {
        // What a STEP was, where it was no BRANCH; a BRANCH tells its WAY, 0 or 1.
        private static final int STOPPED = -1, PLAIN = 2;

        private final int[] kinds = new int[PLACES];
        private final int[] firsts = new int[PLACES];
        private final int[] seconds = new int[PLACES];
        private final int[] numbers = new int[PLACES];
        private final int[] registers = new int[REGISTERS];
        private final int[] memory = new int[DATA];
        private int standing;
        private int steps;

        private void write(int place, int kind, int r, int s, int v) {
            kinds[place] = kind;
            firsts[place] = r;
            seconds[place] = s;
            numbers[place] = v;
        }

        private int step() {
            int place = standing;
            int kind = kinds[place];
            if (kind == OP_STOP) return STOPPED;
            steps++;
            standing = (place + 1) & LAST_PLACE;
            if (kind < OP_FIRST_BRANCH) {
                reckon(kind, firsts[place], seconds[place], numbers[place]);
                return PLAIN;
            }
            boolean goes = kind == OP_JUMP || holds(kind, registers[firsts[place]], registers[seconds[place]]);
            if (goes) standing = numbers[place] & LAST_PLACE;
            if (kind == OP_JUMP) return PLAIN;
            return goes ? 1 : 0;
        }

        private static boolean holds(int kind, int left, int right) {
            if (kind == OP_BELOW) return left < right;
            if (kind == OP_ALIKE) return left == right;
            return left != 0;
        }

        private void reckon(int kind, int r, int s, int v) {
            int spot = registers[s] & (DATA - 1);
            switch (kind) {
                case 1: registers[r] = v; break;
                case 2: registers[r] += registers[s]; break;
                case 3: registers[r] -= registers[s]; break;
                case 4: registers[r] *= registers[s]; break;
                case 5: registers[r] &= registers[s]; break;
                case 6: registers[r] >>>= 1; break;
                case 7: registers[r] = memory[spot]; break;
                case 8: memory[spot] = registers[r]; break;
                default: break;
            }
        }
    }

    private static final class Row {
        // One tally holds both counts, as none passes 3000: WAYS 0 below, WAYS 1 above.
        private static final int COUNT_BITS = 16;
        private static final int COUNT_MASK = (1 << COUNT_BITS) - 1;

        private final int[] branches = new int[MOST_KEPT];
        private final int[] counts = new int[2 * PLACES];
        private final int[] tallies = new int[PLACES << MOST_HISTORY];
        private final int[] keys = new int[MOST_KEPT];
        private final int[] histories = new int[PLACES];
        private int size;
        private int leastMisses;
        private int unlike;

        private void add(int place, int way) {
            if (size >= MOST_KEPT) return;
            branches[size] = 2 * place + way;
            counts[2 * place + way]++;
            size++;
        }

        private void clear() {
            size = 0;
            Arrays.fill(counts, 0);
        }

        private int placeOf(int i) {
            return branches[i] >> 1;
        }

        private int wayOf(int i) {
            return branches[i] & 1;
        }

        private int count(int place, int way) {
            return counts[2 * place + way];
        }

        private int usualWay(int place) {
            int zeros = count(place, 0);
            int ones = count(place, 1);
            if (zeros + ones == 0) return NO_HINT;
            return ones >= zeros ? 1 : 0;
        }

        // Works out leastMisses and unlike in one pass over THE ROW.
        private void survey(int n, boolean own) {
            Arrays.fill(histories, 0);
            leastMisses = 0;
            unlike = 0;
            for (int i = 0; i < size; i++) {
                int place = placeOf(i);
                int way = wayOf(i);
                // One HISTORY of all is that of a single PLACE that every BRANCH shares.
                int holder = own ? place : 0;
                keys[i] = (place << n) | histories[holder];
                tally(keys[i], way);
                histories[holder] = ((histories[holder] << 1) | way) & lowBits(n);
            }
            // Only what was touched is cleared: THE ROW is mostly far shorter than the table.
            for (int i = 0; i < size; i++) tallies[keys[i]] = 0;
        }

        private void tally(int key, int way) {
            int zeros = tallies[key] & COUNT_MASK;
            int ones = tallies[key] >> COUNT_BITS;
            if (zeros + ones == 0) unlike++;
            // The rarer WAY is missed, so only its growth is one more MISS.
            if (way == 1 ? ones < zeros : zeros < ones) leastMisses++;
            tallies[key] += way == 1 ? 1 << COUNT_BITS : 1;
        }
    }

    // All that fresh() takes away, in one piece, so that it can be kept and brought back.
    private static final class Learnt {
        private final int[] cells;
        private final int[] lastPlaces;
        private final int[] ownHistories = new int[PLACES];
        private final int[] missedAt = new int[PLACES];
        private final int[] pairs = new int[MOST_PAIRS];
        private int history;
        private int asked;
        private int missed;
        private int clashed;
        private int pairCount;

        private Learnt(int cellCount, int slotCount) {
            cells = new int[cellCount];
            lastPlaces = new int[slotCount];
            Arrays.fill(lastPlaces, NONE);
        }

        private Learnt twin() {
            return new Learnt(cells.length, lastPlaces.length);
        }

        private void take(Learnt from) {
            System.arraycopy(from.cells, 0, cells, 0, Math.min(cells.length, from.cells.length));
            System.arraycopy(from.lastPlaces, 0, lastPlaces, 0, Math.min(lastPlaces.length, from.lastPlaces.length));
            System.arraycopy(from.ownHistories, 0, ownHistories, 0, PLACES);
            System.arraycopy(from.missedAt, 0, missedAt, 0, PLACES);
            System.arraycopy(from.pairs, 0, pairs, 0, MOST_PAIRS);
            history = from.history;
            asked = from.asked;
            missed = from.missed;
            clashed = from.clashed;
            pairCount = from.pairCount;
        }

        private void countAsked(int place, boolean miss) {
            asked++;
            if (!miss) return;
            missed++;
            missedAt[place]++;
        }

        private void useSlot(int slot, int place) {
            int last = lastPlaces[slot];
            lastPlaces[slot] = place;
            if (last == NONE || last == place) return;
            clashed++;
            keepPair(PLACES * Math.min(last, place) + Math.max(last, place));
        }

        private void keepPair(int two) {
            for (int i = 0; i < pairCount; i++) {
                if (pairs[i] == two) return;
            }
            if (pairCount >= MOST_PAIRS) return;
            pairs[pairCount] = two;
            pairCount++;
        }

        private void addWay(int place, int way) {
            history = ((history << 1) | way) & lowBits(MOST_HISTORY);
            ownHistories[place] = ((ownHistories[place] << 1) | way) & lowBits(MOST_HISTORY);
        }

        private int counterWay(int cell) {
            return cells[cell] >= 2 ? 1 : 0;
        }

        private void teachCounter(int cell, int way) {
            cells[cell] = way == 1 ? Math.min(cells[cell] + 1, 3) : Math.max(cells[cell] - 1, 0);
        }
    }

    private abstract static class Guesser {
        static final int NO_SLOT = -1;

        final int[] hints = new int[PLACES];
        final Learnt[] kept = new Learnt[KEEPS];
        final Learnt first;
        final Learnt now;
        final int tables;
        final int width;
        int said;

        // tables times width cells; slots: the COUNTERS or rows that can CLASH, 0 if none can.
        Guesser(int tables, int width, int slots, int firstCell) {
            this.tables = tables;
            this.width = width;
            Arrays.fill(hints, NO_HINT);
            first = new Learnt(tables * width, slots);
            Arrays.fill(first.cells, firstCell);
            now = first.twin();
            now.take(first);
        }

        // The WAY that it would GUESS without a HINT.
        abstract int ownWay(int place);

        abstract void learn(int place, int way);

        // The COUNTER or row whose CLASHES count; NO_SLOT for KINDS without.
        abstract int slotOf(int place);

        // The GUESSERS that it asks, as bits by their numbers.
        int asks() {
            return 0;
        }

        final boolean canClash() {
            return now.lastPlaces.length > 0;
        }

        final void say(int place) {
            said = hints[place] == NO_HINT ? ownWay(place) : hints[place];
        }

        final void meetBranch(int place, int way) {
            say(place);
            now.countAsked(place, said != way);
            int slot = slotOf(place);
            if (slot != NO_SLOT) now.useSlot(slot, place);
            learn(place, way);
            now.addWay(place, way);
        }

        final void forget() {
            now.take(first);
        }

        int look(int t, int i) {
            if (!within(t, 0, tables - 1) || !within(i, 0, width - 1)) return INSIDE_UNKNOWN;
            return now.cells[t * width + i];
        }
    }

    private static final class Fixed extends Guesser {
        private static final int BACK = 2;

        private final Machine machine;
        private final int rule;

        private Fixed(Machine machine, int rule) {
            super(0, 0, 0, 0);
            this.machine = machine;
            this.rule = rule;
        }

        int ownWay(int place) {
            if (rule != BACK) return rule;
            return machine.numbers[place] <= place ? 1 : 0;
        }

        // It holds to its rule, whatever the WAYS are.
        void learn(int place, int way) {
        }

        int slotOf(int place) {
            return NO_SLOT;
        }

        int look(int t, int i) {
            return INSIDE_NO;
        }
    }

    // KINDS 1, 2 and 3: they differ only in the HISTORY and in how the PLACE is mixed in.
    private static final class Counters extends Guesser {
        private final int mask;
        private final int historyMask;
        private final boolean own;
        private final int placeTimes;

        private Counters(int bits, int history, boolean own, int placeTimes) {
            super(1, 1 << bits, 1 << bits, 1);
            mask = lowBits(bits);
            historyMask = lowBits(history);
            this.own = own;
            this.placeTimes = placeTimes;
        }

        int slotOf(int place) {
            int past = own ? now.ownHistories[place] : now.history;
            return ((past & historyMask) ^ (placeTimes * place)) & mask;
        }

        int ownWay(int place) {
            return now.counterWay(slotOf(place));
        }

        void learn(int place, int way) {
            now.teachCounter(slotOf(place), way);
        }
    }

    private static final class Votes extends Guesser {
        private static final int TABLES = 3;

        private final int mask;
        private final int history;

        private Votes(int bits, int history) {
            super(TABLES, 1 << bits, 0, 1);
            mask = lowBits(bits);
            this.history = history;
        }

        private int cellOf(int table, int place) {
            int past = now.history & lowBits(table * history);
            return table * width + (((5 * place) ^ past) & mask);
        }

        int ownWay(int place) {
            int votes = 0;
            for (int t = 0; t < TABLES; t++) votes += now.counterWay(cellOf(t, place));
            return votes >= 2 ? 1 : 0;
        }

        void learn(int place, int way) {
            for (int t = 0; t < TABLES; t++) now.teachCounter(cellOf(t, place), way);
        }

        int slotOf(int place) {
            return NO_SLOT;
        }
    }

    private static final class Weights extends Guesser {
        private static final int LEAST = -64, MOST = 63;

        private final int mask;
        private final int sure;

        private Weights(int bits, int history, int sure) {
            super(1 << bits, history + 1, 1 << bits, 0);
            mask = lowBits(bits);
            this.sure = sure;
        }

        int slotOf(int place) {
            return place & mask;
        }

        // Weight 0 has no bit of HISTORY: it counts as if its bit were always 1.
        private int bitOf(int weight) {
            return weight == 0 ? 1 : (now.history >> (weight - 1)) & 1;
        }

        private int sumAt(int place) {
            int start = slotOf(place) * width;
            int sum = 0;
            for (int i = 0; i < width; i++) {
                sum += bitOf(i) == 1 ? now.cells[start + i] : -now.cells[start + i];
            }
            return sum;
        }

        int ownWay(int place) {
            return sumAt(place) >= 0 ? 1 : 0;
        }

        void learn(int place, int way) {
            int sum = sumAt(place);
            boolean right = (sum >= 0) == (way == 1);
            if (right && Math.abs(sum) > sure) return;
            int start = slotOf(place) * width;
            for (int i = 0; i < width; i++) {
                int moved = now.cells[start + i] + (bitOf(i) == way ? 1 : -1);
                now.cells[start + i] = Math.max(LEAST, Math.min(MOST, moved));
            }
        }
    }

    private static final class Loops extends Guesser {
        private static final int COUNT = 0, LAST = 1, TRUST = 2, CELLS = 3;
        private static final int MOST_COUNT = 255, MOST_TRUST = 3;

        private final int enough;

        private Loops(int enough) {
            super(PLACES, CELLS, 0, 0);
            this.enough = enough;
            for (int place = 0; place < PLACES; place++) first.cells[place * CELLS + LAST] = -1;
            now.take(first);
        }

        int ownWay(int place) {
            int start = place * CELLS;
            boolean trusted = now.cells[start + TRUST] >= enough;
            return trusted && now.cells[start + COUNT] == now.cells[start + LAST] ? 0 : 1;
        }

        void learn(int place, int way) {
            int start = place * CELLS;
            int count = now.cells[start + COUNT];
            if (way == 1) {
                now.cells[start + COUNT] = Math.min(count + 1, MOST_COUNT);
                return;
            }
            boolean same = count == now.cells[start + LAST];
            now.cells[start + TRUST] = same ? Math.min(now.cells[start + TRUST] + 1, MOST_TRUST) : 0;
            now.cells[start + LAST] = count;
            now.cells[start + COUNT] = 0;
        }

        int slotOf(int place) {
            return NO_SLOT;
        }
    }

    private static final class Chooser extends Guesser {
        private final Guesser one;
        private final Guesser other;
        private final int asked;
        private final int mask;

        private Chooser(Guesser one, Guesser other, int asked, int bits) {
            super(1, 1 << bits, 1 << bits, 1);
            this.one = one;
            this.other = other;
            this.asked = asked;
            mask = lowBits(bits);
        }

        int asks() {
            return asked;
        }

        int slotOf(int place) {
            return place & mask;
        }

        int ownWay(int place) {
            return now.counterWay(slotOf(place)) == 1 ? other.said : one.said;
        }

        void learn(int place, int way) {
            if (one.said != other.said) now.teachCounter(slotOf(place), other.said == way ? 1 : 0);
        }
    }
}
