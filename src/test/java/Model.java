import java.util.ArrayList;
import java.util.HashSet;
import java.util.List;
import java.util.Set;
import java.util.TreeMap;

/** The document's promises in their slowest and most literal form, to hold StormOffice against. */
final class Model {
    static final int NONE = -1;

    record Telling(String sort, int of, int cell, int measure, int told) { }

    static final class Warning {
        int county, begin, end, ears, judged;
        Set<Integer> sirens;

        boolean thereAt(int t) {
            return begin <= t && t < end;
        }
    }

    final int[] county = new int[96], people = new int[96], shelter = new int[96];
    final Set<Integer> sirens = new HashSet<>();
    final int[][] radars = new int[3][];
    final List<Set<Integer>> blind = List.of(new HashSet<>(), new HashSet<>(), new HashSet<>());
    final List<Telling> tellings = new ArrayList<>();
    final List<Warning> warnings = new ArrayList<>();
    final TreeMap<Integer, Integer> truth = new TreeMap<>();
    final TreeMap<Integer, int[]> posts = new TreeMap<>();
    final int[] ears = {100, 100, 100, 100, 100, 100, 100, 100};
    final StringBuilder tape = new StringBuilder();
    RuleText rules = new RuleText("");
    int[] latestFault = {0, NONE};
    int now, moves = 511, start;
    boolean on;

    Model() {
        java.util.Arrays.fill(shelter, 10);
    }

    static boolean in(int v, int a, int b) {
        return a <= v && v <= b;
    }

    static int far(int a, int b) {
        return Math.max(Math.abs(a % 12 - b % 12), Math.abs(a / 12 - b / 12));
    }

    boolean land(int c, int co, int pe, int sh) {
        if (!in(c, 0, 95) || !in(co, 0, 7) || !in(pe, 0, 999) || !in(sh, 0, 30)) return false;
        county[c] = co;
        people[c] = pe;
        shelter[c] = sh;
        return true;
    }

    boolean siren(int c, boolean is) {
        if (!in(c, 0, 95)) return false;
        if (is) sirens.add(c);
        else sirens.remove(c);
        return true;
    }

    boolean storm(int m, int s) {
        if (!in(m, 1, 511) || !in(s, 0, 719)) return false;
        moves = m;
        start = s;
        return true;
    }

    boolean radar(int r, int c, int range, int off) {
        if (!in(r, 0, 2) || !in(c, 0, 95) || !in(range, 0, 11) || !in(off, 0, 3)) return false;
        radars[r] = new int[] {c, range, off};
        blind.get(r).clear();
        return true;
    }

    boolean blind(int r, int c, boolean is) {
        if (!in(r, 0, 2) || !in(c, 0, 95) || radars[r] == null || blind.get(r).contains(c) == is) return false;
        if (is) blind.get(r).add(c);
        else blind.get(r).remove(c);
        return true;
    }

    boolean sees(int r, int c) {
        return radars[r] != null && far(radars[r][0], c) <= radars[r][1] && !blind.get(r).contains(c);
    }

    int of(int c, int what) {
        if (!in(c, 0, 95)) return NONE;
        if (what == 0) return county[c];
        if (what == 1) return people[c];
        if (what == 2) return shelter[c];
        if (what == 3) return sirens.contains(c) ? 1 : 0;
        if (what == 4) return (sees(0, c) ? 1 : 0) + (sees(1, c) ? 2 : 0) + (sees(2, c) ? 4 : 0);
        return NONE;
    }

    boolean tell(boolean can, String sort, int t, int c, int measure) {
        if (!can || !in(t, 0, now) || tellings.size() == 300) return false;
        tellings.add(new Telling(sort, t, c, measure, now));
        return true;
    }

    boolean seen(int r, int t, int c) {
        return tell(in(r, 0, 2) && radars[r] != null && in(c, 0, 95), "seen", t, c, r);
    }

    boolean bare(int r, int t) {
        return tell(in(r, 0, 2) && radars[r] != null, "bare", t, NONE, r);
    }

    boolean word(int t, int c, int doubt) {
        return tell(in(c, 0, 95) && in(doubt, -1, 5), doubt == -1 ? "unsure" : "sure", t, c, doubt);
    }

    boolean allows(Telling told, int c) {
        switch (told.sort) {
            case "seen": return far(c, told.cell) <= radars[told.measure][2];
            case "bare": return !sees(told.measure, c);
            case "sure": return far(c, told.cell) <= told.measure;
            default: return true;
        }
    }

    Set<Integer> goesTo(int c) {
        Set<Integer> all = new HashSet<>();
        for (int b = 0; b < 9; b++) {
            int x = c % 12 + (b % 3 - 1), y = c / 12 + (b / 3 - 1);
            if ((moves >> b & 1) == 1 && in(x, 0, 11) && in(y, 0, 7)) all.add(12 * y + x);
        }
        return all;
    }

    Set<Integer> step(Set<Integer> from) {
        Set<Integer> all = new HashSet<>();
        for (int c : from) all.addAll(goesTo(c));
        return all;
    }

    /** MAYBE at all MINUTES up to t. */
    List<Set<Integer>> maybeRows(int t, int k) {
        List<Set<Integer>> rows = new ArrayList<>();
        for (int m = 0; m <= t; m++) {
            Set<Integer> row = new HashSet<>();
            if (m == start) for (int c = 0; c < 96; c++) row.add(c);
            if (m > start) row = step(rows.get(m - 1));
            for (Telling told : tellings) {
                if (told.of == m && told.told <= k) row.removeIf(c -> !allows(told, c));
            }
            rows.add(row);
        }
        return rows;
    }

    Set<Integer> maybeSet(int t, int k) {
        return maybeRows(t, k).get(t);
    }

    int maybe(int t, int k, int c) {
        if (!in(t, 0, 719) || !in(k, 0, now) || !in(c, 0, 95)) return NONE;
        return maybeSet(t, k).contains(c) ? 1 : 0;
    }

    Set<Integer> after(int t, int k) {
        int last = -1;
        for (Telling told : tellings) {
            if (told.told <= k && !told.sort.equals("unsure")) last = Math.max(last, told.of);
        }
        List<Set<Integer>> rows = maybeRows(Math.max(t, last), k);
        Set<Integer> can = rows.get(Math.max(t, last));
        for (int m = last - 1; m >= t; m--) {
            Set<Integer> ahead = new HashSet<>();
            for (int c : rows.get(m)) {
                for (int to : goesTo(c)) if (can.contains(to)) ahead.add(c);
            }
            can = ahead;
        }
        return can;
    }

    int count(int t, int k, int what) {
        if (!in(t, 0, 719) || !in(k, 0, now)) return NONE;
        if (what == 0) return maybeSet(t, k).size();
        if (what == 1) return after(t, k).size();
        if (in(what, 10, 105)) return after(t, k).contains(what - 10) ? 1 : 0;
        return NONE;
    }

    int quarrel(int k) {
        if (!in(k, 0, now)) return NONE;
        List<Set<Integer>> rows = maybeRows(k, k);
        for (int t = start; t <= k; t++) if (rows.get(t).isEmpty()) return t;
        return NONE;
    }

    /** How many PATHS go on from c for n MINUTES through CELLS that the box forgives; box 511 forgives all. */
    long walks(int c, int n, int box, long[][] known) {
        if (box != 511 && people[c] > 0 && (box >> county[c] & 1) == 0) return 0;
        if (n == 0) return 1;
        if (known[n][c] >= 0) return known[n][c];
        long sum = 0;
        for (int to : goesTo(c)) sum += walks(to, n - 1, box, known);
        known[n][c] = sum;
        return sum;
    }

    long walksFromNow(int n, int box) {
        long[][] known = new long[13][96];
        for (long[] row : known) java.util.Arrays.fill(row, -1);
        long sum = 0;
        for (int c : maybeSet(now, now)) sum += walks(c, n, box, known);
        return sum;
    }

    long paths(int n) {
        return in(n, 1, 12) ? walksFromNow(n, 511) : NONE;
    }

    long missed(int n, int box) {
        return in(n, 1, 12) && in(box, 0, 255) ? paths(n) - walksFromNow(n, box) : NONE;
    }

    int boxPeople(int box) {
        int sum = 0;
        for (int c = 0; c < 96; c++) if ((box >> county[c] & 1) == 1) sum += people[c];
        return sum;
    }

    int box(int n, int part, int what) {
        if (!in(n, 1, 12) || !in(part, 0, 1000) || !in(what, 0, 1)) return NONE;
        int best = NONE;
        long all = paths(n);
        for (int box = 0; box < 256; box++) {
            if ((all - walksFromNow(n, box)) * 1000 > part * all) continue;
            if (best == NONE || boxPeople(box) < boxPeople(best)
                    || boxPeople(box) == boxPeople(best) && Integer.bitCount(box) < Integer.bitCount(best)) best = box;
        }
        return what == 0 ? best : boxPeople(best);
    }

    int feed(int... words) {
        if (tape.length() + 20 > 800) return NONE;
        for (int w : words) for (int i = 3; i >= 0; i--) tape.append((char) (w >> 8 * i & 255));
        return tape.length();
    }

    boolean end(int n) {
        if (n < 0 || n > tape.length()) return false;
        tape.setLength(n);
        return true;
    }

    int rules() {
        RuleText text = new RuleText(tape.toString());
        tape.setLength(0);
        latestFault = text.fault();
        if (latestFault[0] != 0) return NONE;
        rules = text;
        return rules.lines().size();
    }

    int fault(int what) {
        return in(what, 0, 1) ? latestFault[what] : NONE;
    }

    void on(boolean is) {
        on = is;
    }

    int recent(String sort, int co) {
        int n = 0;
        for (Telling t : tellings) {
            if (t.sort.equals(sort) && in(t.of, now - 9, now) && county[t.cell] == co) n++;
        }
        return n;
    }

    boolean touches(Set<Integer> cells, int co) {
        return cells.stream().anyMatch(c -> county[c] == co);
    }

    int soon(int co, Set<Integer> cells) {
        for (int m = 0; m <= 12; m++) {
            if (touches(cells, co)) return m;
            cells = step(cells);
        }
        return 99;
    }

    Warning there(int co, int t) {
        for (Warning w : warnings) if (w.county == co && w.thereAt(t)) return w;
        return null;
    }

    int[] answers(int co, Set<Integer> maybeNow) {
        Warning w = there(co, now);
        return new int[] {recent("seen", co), recent("sure", co), recent("unsure", co),
            (int) maybeNow.stream().filter(c -> county[c] == co).count(), soon(co, maybeNow),
            boxPeople(1 << co), w == null ? 0 : w.end - now, ears[co], now / 60};
    }

    int asks(int co, int what) {
        if (!in(co, 0, 7) || !in(what, 0, 9)) return NONE - 1;
        int[] answers = answers(co, maybeSet(now, now));
        return what == 9 ? rules.firstTrue(answers) : answers[what];
    }

    int minutes(int n) {
        if (!in(n, 1, 60) || now + n > 719) return NONE;
        for (int i = 0; i < n; i++) {
            boolean asked = on && !rules.lines().isEmpty();
            Set<Integer> maybeNow = asked ? maybeSet(now, now) : Set.of();
            for (int co = 0; co < 8 && asked; co++) {
                int[] answers = answers(co, maybeNow);
                int line = rules.firstTrue(answers);
                if (line == NONE) continue;
                String deed = rules.deed(line);
                if (deed.equals("warn")) issue(co, Math.min(60, Math.max(1, rules.span(line, answers))));
                if (deed.equals("lift")) lift(co);
            }
            now++;
        }
        return now;
    }

    int issue(int co, int n) {
        Warning w = there(co, now);
        if (w == null && warnings.size() == 200) return NONE;
        if (w == null) {
            w = new Warning();
            w.county = co;
            w.begin = now;
            w.ears = ears[co];
            w.sirens = new HashSet<>(sirens);
            warnings.add(w);
        }
        w.end = Math.max(w.end, now + n);
        return warnings.indexOf(w);
    }

    int warn(int co, int n) {
        return in(co, 0, 7) && in(n, 1, 60) ? issue(co, n) : NONE;
    }

    boolean lift(int co) {
        Warning w = there(co, now);
        if (w != null) w.end = now;
        return w != null;
    }

    int warning(int w, int what) {
        if (!in(w, 0, warnings.size() - 1) || !in(what, 0, 4)) return NONE;
        Warning it = warnings.get(w);
        return new int[] {it.county, it.begin, it.end, it.ears, it.judged}[what];
    }

    int look(int what) {
        if (!in(what, 0, 5)) return NONE;
        return new int[] {now, tellings.size(), warnings.size(),
            (int) warnings.stream().filter(w -> w.thereAt(now)).count(),
            (int) warnings.stream().filter(w -> w.judged != 0).count(),
            (int) warnings.stream().filter(w -> w.judged == 2).count()}[what];
    }

    boolean truth(int t, int c) {
        if (!in(t, 0, now) || !in(c, -1, 95)) return false;
        if (c == -1) truth.remove(t);
        else truth.put(t, c);
        return true;
    }

    int safe(int t, int c) {
        if (!in(t, 0, now) || !in(c, 0, 95)) return NONE;
        Warning w = there(county[c], t);
        if (w == null) return 0;
        boolean loud = w.sirens.stream().anyMatch(s -> far(s, c) <= 1);
        int from = w.begin + (loud ? 0 : 5) + shelter[c];
        return t >= from ? people[c] * w.ears / 100 : 0;
    }

    int found(int a, int b) {
        if (!(0 <= a && a <= b && b <= now)) return NONE;
        int sum = 0;
        for (int t : truth.keySet()) {
            int c = truth.get(t);
            if (in(t, a, b) && !Integer.valueOf(c).equals(truth.get(t - 1))) sum += people[c] - safe(t, c);
        }
        return sum;
    }

    int judge() {
        int n = 0;
        for (Warning w : warnings) {
            if (w.judged != 0 || w.end > now) continue;
            boolean right = truth.keySet().stream().anyMatch(t -> w.thereAt(t) && county[truth.get(t)] == w.county);
            w.judged = right ? 1 : 2;
            ears[w.county] = right ? Math.min(100, ears[w.county] + 5) : Math.max(10, ears[w.county] - 10);
            n++;
        }
        return n;
    }

    int entries(int co, int what) {
        if (!in(co, 0, 7) || !in(what, 0, 2)) return NONE;
        int[] sums = new int[3];
        for (int t : truth.keySet()) {
            if (county[truth.get(t)] != co) continue;
            if (truth.containsKey(t - 1) && county[truth.get(t - 1)] == co) continue;
            Warning w = there(co, t);
            sums[0]++;
            if (w == null) sums[1]++;
            else sums[2] += t - w.begin;
        }
        return sums[what];
    }

    boolean post(int p, int c, int eyes) {
        if (!in(p, 0, 7) || !in(c, 0, 95) || !in(eyes, 0, 5)) return false;
        posts.put(p, new int[] {c, eyes});
        return true;
    }

    int posts(int k, int what) {
        if (k < 0 || k > posts.size() || !in(what, 0, 2)) return NONE;
        int[] best = null;
        for (int set = 0; set < 256; set++) {
            int wanted = set;
            if (Integer.bitCount(set) != k) continue;
            if (posts.keySet().stream().filter(p -> (wanted >> p & 1) == 1).count() != k) continue;
            int crowd = 0, cells = 0;
            for (int c = 0; c < 96; c++) {
                int at = c;
                boolean watched = posts.entrySet().stream().anyMatch(
                        e -> (wanted >> e.getKey() & 1) == 1 && far(e.getValue()[0], at) <= e.getValue()[1]);
                if (!watched || of(c, 4) != 0) continue;
                crowd += people[c];
                cells++;
            }
            if (best == null || crowd > best[1] || crowd == best[1] && cells > best[2]) {
                best = new int[] {set, crowd, cells};
            }
        }
        return best[what];
    }
}
