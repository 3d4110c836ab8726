import java.util.ArrayList;
import java.util.Arrays;
import java.util.HashMap;
import java.util.HashSet;
import java.util.LinkedHashSet;
import java.util.List;
import java.util.Map;
import java.util.Set;

/**
 * The document once more, as a second opinion for ModelTest: a GUESSER is nothing but the log of
 * the BRANCHES that it met, and what can be told of it is worked out from that log by definition.
 */
final class Model {
    static final class Event {
        final int place, way, guessed, guessA, guessB, slot;

        Event(int place, int way, int guessed, int guessA, int guessB, int slot) {
            this.place = place;
            this.way = way;
            this.guessed = guessed;
            this.guessA = guessA;
            this.guessB = guessB;
            this.slot = slot;
        }
    }

    final class G {
        final int kind, a, b, c;
        final Map<Integer, Integer> hints = new HashMap<>();
        final Map<Integer, List<Event>> kept = new HashMap<>();
        List<Event> log = new ArrayList<>();
        Map<String, Integer> cells = new HashMap<>();
        int guessedHere;

        G(int kind, int a, int b, int c) {
            this.kind = kind;
            this.a = a;
            this.b = b;
            this.c = c;
        }

        int history(int n) {
            int bits = 0;
            for (int i = 0; i < n && i < log.size(); i++) bits += log.get(log.size() - 1 - i).way << i;
            return bits;
        }

        int ownHistory(int n, int place) {
            int bits = 0;
            int found = 0;
            for (int i = log.size() - 1; i >= 0 && found < n; i--) {
                if (log.get(i).place == place) bits += log.get(i).way << found++;
            }
            return bits;
        }

        int cell(int t, int i) {
            int first = kind == 6 ? (i == 1 ? -1 : 0) : kind == 5 ? 0 : 1;
            return cells.getOrDefault(t + ":" + i, first);
        }

        void put(int t, int i, int value) {
            cells.put(t + ":" + i, value);
        }

        int slot(int place) {
            switch (kind) {
                case 1: return place % (1 << a);
                case 2: return (place ^ history(b)) % (1 << a);
                case 3: return (ownHistory(b, place) ^ (c == 1 ? place : 0)) % (1 << a);
                case 5: return place % (1 << a);
                case 7: return place % (1 << c);
                default: return -1;
            }
        }

        int vote(int t, int place) {
            return ((place * 5) ^ history(t * b)) % (1 << a);
        }

        int sum(int place) {
            int row = slot(place);
            int sum = cell(row, 0);
            int bits = history(b);
            for (int i = 0; i < b; i++) sum += (bits & (1 << i)) != 0 ? cell(row, i + 1) : -cell(row, i + 1);
            return sum;
        }

        int unhinted(int place, int guessA, int guessB) {
            switch (kind) {
                case 0: return a < 2 ? a : (ops[place][3] > place ? 0 : 1);
                case 1: case 2: case 3: return cell(0, slot(place)) > 1 ? 1 : 0;
                case 4:
                    int ones = 0;
                    for (int t = 0; t < 3; t++) if (cell(t, vote(t, place)) > 1) ones++;
                    return ones > 1 ? 1 : 0;
                case 5: return sum(place) < 0 ? 0 : 1;
                case 6: return cell(place, 2) >= a && cell(place, 0) == cell(place, 1) ? 0 : 1;
                default: return cell(0, slot(place)) > 1 ? guessB : guessA;
            }
        }

        void learn(Event e) {
            int up = e.way == 1 ? 1 : -1;
            switch (kind) {
                case 1: case 2: case 3: put(0, e.slot, clamp(cell(0, e.slot) + up, 0, 3)); break;
                case 4:
                    for (int t = 0; t < 3; t++) {
                        int i = vote(t, e.place);
                        put(t, i, clamp(cell(t, i) + up, 0, 3));
                    }
                    break;
                case 5:
                    int sum = sum(e.place);
                    if ((sum >= 0 ? 1 : 0) == e.way && (sum > c || sum < -c)) break;
                    put(e.slot, 0, clamp(cell(e.slot, 0) + up, -64, 63));
                    for (int i = 0; i < b; i++) {
                        boolean bit = (history(b) & (1 << i)) != 0;
                        put(e.slot, i + 1, clamp(cell(e.slot, i + 1) + (bit == (e.way == 1) ? 1 : -1), -64, 63));
                    }
                    break;
                case 6:
                    if (e.way == 1) {
                        put(e.place, 0, clamp(cell(e.place, 0) + 1, 0, 255));
                    } else {
                        boolean same = cell(e.place, 0) == cell(e.place, 1);
                        put(e.place, 2, same ? clamp(cell(e.place, 2) + 1, 0, 3) : 0);
                        put(e.place, 1, cell(e.place, 0));
                        put(e.place, 0, 0);
                    }
                    break;
                case 7:
                    if (e.guessA != e.guessB) {
                        put(0, e.slot, clamp(cell(0, e.slot) + (e.guessB == e.way ? 1 : -1), 0, 3));
                    }
                    break;
                default: break;
            }
        }

        void meet(int place, int way) {
            int guessA = kind == 7 ? guessers.get(a).guessedHere : -1;
            int guessB = kind == 7 ? guessers.get(b).guessedHere : -1;
            guessedHere = hints.containsKey(place) ? hints.get(place) : unhinted(place, guessA, guessB);
            apply(new Event(place, way, guessedHere, guessA, guessB, slot(place)));
        }

        void apply(Event e) {
            learn(e);
            log.add(e);
        }

        void rebuild(List<Event> events) {
            log = new ArrayList<>();
            cells = new HashMap<>();
            for (Event e : events) apply(e);
        }

        int now(int place) {
            if (hints.containsKey(place)) return hints.get(place);
            return kind == 7 ? unhinted(place, guessers.get(a).now(place), guessers.get(b).now(place))
                             : unhinted(place, -1, -1);
        }

        boolean clashing() {
            return kind == 1 || kind == 2 || kind == 3 || kind == 5 || kind == 7;
        }

        List<Integer> clashes() {
            List<Integer> all = new ArrayList<>();
            Map<Integer, Integer> last = new HashMap<>();
            for (Event e : log) {
                Integer before = last.put(e.slot, e.place);
                if (before == null || before == e.place) continue;
                all.add(64 * Math.min(before, e.place) + Math.max(before, e.place));
            }
            return all;
        }

        int missed(int place) {
            int n = 0;
            for (Event e : log) if (e.guessed != e.way && (place == -1 || e.place == place)) n++;
            return n;
        }
    }

    final int[][] ops = new int[64][4];
    final int[] registers = new int[8];
    final int[] memory = new int[32];
    int standing, steps, ever;
    final List<int[]> row = new ArrayList<>();
    final List<G> guessers = new ArrayList<>();

    static int clamp(int x, int least, int most) {
        return x < least ? least : x > most ? most : x;
    }

    boolean noPlace(int p) {
        return p < 0 || p > 63;
    }

    boolean noG(int g) {
        return g < 0 || g >= guessers.size();
    }

    boolean out(int x, int least, int most) {
        return x < least || x > most;
    }

    int op(int place, int kind, int r, int s, int v) {
        if (noPlace(place)) return -1;
        if (out(kind, 0, 12) || out(r, 0, 7) || out(s, 0, 7) || (kind > 8 && noPlace(v))) return -2;
        int before = ops[place][0];
        ops[place] = new int[] {kind, r, s, v};
        return before;
    }

    int register(int r, int v) {
        if (out(r, 0, 7)) return -2;
        registers[r] = v;
        return 1;
    }

    int value(int r) {
        return out(r, 0, 7) ? 0 : registers[r];
    }

    int data(int i, int v) {
        if (out(i, 0, 31)) return -2;
        memory[i] = v;
        return 1;
    }

    int stored(int i) {
        return out(i, 0, 31) ? 0 : memory[i];
    }

    int stand(int place) {
        if (noPlace(place)) return -1;
        int before = standing;
        standing = place;
        return before;
    }

    int run(int n) {
        if (out(n, 0, 2000)) return -2;
        int done = 0;
        while (done < n && ops[standing][0] != 0) {
            step(standing, ops[standing]);
            done++;
        }
        return done;
    }

    void step(int place, int[] o) {
        int x = registers[o[1]], y = registers[o[2]];
        int next = (place + 1) % 64;
        int way = -1;
        switch (o[0]) {
            case 1: registers[o[1]] = o[3]; break;
            case 2: registers[o[1]] = x + y; break;
            case 3: registers[o[1]] = x - y; break;
            case 4: registers[o[1]] = x * y; break;
            case 5: registers[o[1]] = x & y; break;
            case 6: registers[o[1]] = x >>> 1; break;
            case 7: registers[o[1]] = memory[y & 31]; break;
            case 8: memory[y & 31] = x; break;
            case 9: way = x < y ? 1 : 0; break;
            case 10: way = x == y ? 1 : 0; break;
            case 11: way = x != 0 ? 1 : 0; break;
            default: next = o[3]; break;
        }
        if (way == 1) next = o[3];
        standing = next;
        steps++;
        if (way != -1) meet(place, way);
    }

    void meet(int place, int way) {
        ever++;
        if (row.size() < 3000) row.add(new int[] {place, way});
        for (G g : guessers) g.meet(place, way);
    }

    int branch(int place, int way) {
        if (noPlace(place)) return -1;
        if (out(way, 0, 1)) return -2;
        meet(place, way);
        return ever;
    }

    int at(int i, int what) {
        if (out(i, 0, row.size() - 1)) return -1;
        if (out(what, 0, 1)) return -2;
        return row.get(i)[what];
    }

    int guesser(int kind, int a, int b, int c) {
        if (kind == 7 && (noG(a) || noG(b))) return -1;
        if (out(kind, 0, 7)) return -2;
        int[] leastA = {0, 0, 0, 0, 1, 0, 1, 0}, mostA = {2, 6, 8, 8, 7, 4, 3, 7};
        if (out(a, leastA[kind], mostA[kind])) return -2;
        if ((kind == 2 || kind == 3) && out(b, 0, 8)) return -2;
        if (kind == 4 && out(b, 1, 4)) return -2;
        if (kind == 5 && (out(b, 1, 8) || out(c, 0, 50))) return -2;
        if (kind == 3 && out(c, 0, 1)) return -2;
        if (kind == 7 && out(c, 0, 6)) return -2;
        if (guessers.size() == 8) return -4;
        guessers.add(new G(kind, a, b, c));
        return guessers.size() - 1;
    }

    int guess(int g, int place) {
        return noG(g) || noPlace(place) ? -1 : guessers.get(g).now(place);
    }

    int hint(int g, int place, int way) {
        if (noG(g) || noPlace(place)) return -1;
        if (out(way, -1, 1)) return -2;
        Map<Integer, Integer> hints = guessers.get(g).hints;
        Integer before = way == -1 ? hints.remove(place) : hints.put(place, way);
        return before == null ? -1 : before;
    }

    int profile(int g) {
        if (noG(g)) return -1;
        Map<Integer, Integer> hints = guessers.get(g).hints;
        hints.clear();
        for (int[] e : row) hints.put(e[0], often(e[0], 1) >= often(e[0], 0) ? 1 : 0);
        return hints.size();
    }

    int misses(int g, int place) {
        return noG(g) || out(place, -1, 63) ? -1 : guessers.get(g).missed(place);
    }

    int asked(int g) {
        return noG(g) ? -1 : guessers.get(g).log.size();
    }

    int clashes(int g) {
        if (noG(g)) return -1;
        return guessers.get(g).clashing() ? guessers.get(g).clashes().size() : -5;
    }

    int pair(int g, int i) {
        if (noG(g)) return -1;
        if (!guessers.get(g).clashing()) return -5;
        List<Integer> once = new ArrayList<>(new LinkedHashSet<>(guessers.get(g).clashes()));
        return out(i, 0, Math.min(once.size(), 40) - 1) ? -6 : once.get(i);
    }

    int inside(int g, int t, int i) {
        if (noG(g)) return -1000;
        G x = guessers.get(g);
        if (x.kind == 0) return -1001;
        int tables = x.kind == 4 ? 3 : x.kind == 5 ? 1 << x.a : x.kind == 6 ? 64 : 1;
        int width = x.kind == 5 ? x.b + 1 : x.kind == 6 ? 3 : x.kind == 7 ? 1 << x.c : 1 << x.a;
        return out(t, 0, tables - 1) || out(i, 0, width - 1) ? -1000 : x.cell(t, i);
    }

    int fresh(int g) {
        if (noG(g)) return -1;
        int before = asked(g);
        guessers.get(g).rebuild(new ArrayList<>());
        return before;
    }

    void gather(int g, Set<Integer> into) {
        into.add(g);
        if (guessers.get(g).kind != 7) return;
        gather(guessers.get(g).a, into);
        gather(guessers.get(g).b, into);
    }

    int again(int g) {
        if (noG(g)) return -1;
        Set<Integer> group = new HashSet<>();
        gather(g, group);
        for (int i : group) fresh(i);
        for (int[] e : row) {
            for (int i = 0; i < 8; i++) if (group.contains(i)) guessers.get(i).meet(e[0], e[1]);
        }
        return misses(g, -1);
    }

    int keep(int g, int k) {
        if (noG(g) || out(k, 0, 1)) return -1;
        guessers.get(g).kept.put(k, new ArrayList<>(guessers.get(g).log));
        return 1;
    }

    int back(int g, int k) {
        if (noG(g) || !guessers.get(g).kept.containsKey(k)) return -1;
        guessers.get(g).rebuild(guessers.get(g).kept.get(k));
        return asked(g);
    }

    Map<String, int[]> surveyed(int n, boolean own) {
        Map<String, int[]> counts = new HashMap<>();
        for (int i = 0; i < row.size(); i++) {
            int place = row.get(i)[0];
            char[] past = new char[n];
            Arrays.fill(past, '0');
            int found = 0;
            for (int j = i - 1; j >= 0 && found < n; j--) {
                if (own && row.get(j)[0] != place) continue;
                past[found++] = row.get(j)[1] == 1 ? '1' : '0';
            }
            counts.computeIfAbsent(place + ":" + new String(past), x -> new int[2])[row.get(i)[1]]++;
        }
        return counts;
    }

    int best(int n, boolean own) {
        if (out(n, 0, 8)) return -2;
        int sum = 0;
        for (int[] two : surveyed(n, own).values()) sum += Math.min(two[0], two[1]);
        return sum;
    }

    int seen(int n, boolean own) {
        return out(n, 0, 8) ? -2 : surveyed(n, own).size();
    }

    int often(int place, int way) {
        if (noPlace(place)) return -1;
        if (out(way, -1, 1)) return -2;
        int n = 0;
        for (int[] e : row) if (e[0] == place && (way == -1 || e[1] == way)) n++;
        return n;
    }

    int ticks(int g, int c) {
        if (noG(g)) return -1;
        return out(c, 0, 100) ? -2 : steps + c * misses(g, -1);
    }

    int told(int what) {
        int[] all = {standing, steps, ever, row.size(), guessers.size()};
        return out(what, 0, 4) ? -2 : all[what];
    }

    int empty() {
        int before = row.size();
        row.clear();
        return before;
    }
}
