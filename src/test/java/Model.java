import java.util.ArrayList;
import java.util.List;

/**
 * The document once more, as plainly as can be: every answer is found by going
 * through all groupings, orders, plans, turnings and settings that there are.
 * Slow, and written apart from PressSheets, so that both can be held together.
 */
final class Model {
    static final int UNKNOWN = -900001, OUTSIDE = -900002, STATE = -900003, NONE = -900009;

    final int[][][] reading = new int[6][9][6];
    final boolean[][][] ahead = new boolean[6][9][9];
    final int[][] piece = new int[16][6];
    int presses = 2;
    final List<List<Integer>> sheets = new ArrayList<>();
    final int[][] seen = new int[6][12];
    int size = 4;
    int men = 2;
    int pages = 4;
    int change = 3;
    final int[][] habit = new int[4][6];
    final int[][][] times = new int[12][6][2];

    Model() {
        for (int f = 0; f < 6; f++) {
            for (int[] row : reading[f]) {
                java.util.Arrays.fill(row, NONE);
            }
            java.util.Arrays.fill(seen[f], NONE);
            sheets.add(new ArrayList<>());
        }
        for (int[] row : piece) {
            java.util.Arrays.fill(row, NONE);
        }
        for (int[] row : habit) {
            java.util.Arrays.fill(row, NONE);
        }
    }

    static boolean no(int v, int limit) {
        return v < 0 || v >= limit;
    }

    // ---- readings

    int read(int c, int f, int p, int k) {
        if (no(c, 9) || no(f, 6) || no(p, 6)) return UNKNOWN;
        if (k != NONE && no(k, 10)) return OUTSIDE;
        int was = reading[f][c][p];
        reading[f][c][p] = k;
        return was;
    }

    boolean agrees(int f, int a, int b) {
        for (int p = 0; p < 6; p++) {
            int x = reading[f][a][p];
            int y = reading[f][b][p];
            if (x != NONE && y != NONE && x != y) return false;
        }
        return true;
    }

    int agree(int f, int a, int b) {
        if (no(f, 6) || no(a, 9) || no(b, 9)) return UNKNOWN;
        return agrees(f, a, b) ? 1 : 0;
    }

    List<Integer> looked(int f) {
        List<Integer> all = new ArrayList<>();
        for (int c = 0; c < 9; c++) {
            for (int p = 0; p < 6; p++) {
                if (reading[f][c][p] != NONE) {
                    all.add(c);
                    break;
                }
            }
        }
        return all;
    }

    /** All ways to put n things into groups, numbered as the first of each comes, in order. */
    static List<int[]> partitions(int n) {
        List<int[]> all = new ArrayList<>();
        part(new int[n], 0, 0, all);
        return all;
    }

    private static void part(int[] row, int i, int used, List<int[]> all) {
        if (i == row.length) {
            all.add(row.clone());
            return;
        }
        for (int g = 0; g <= used; g++) {
            row[i] = g;
            part(row, i + 1, Math.max(used, g + 1), all);
        }
    }

    private static final List<List<int[]>> PARTITIONS = new ArrayList<>();
    static {
        for (int n = 0; n <= 9; n++) {
            PARTITIONS.add(partitions(n));
        }
    }

    static int groupsOf(int[] row) {
        int most = 0;
        for (int g : row) {
            most = Math.max(most, g + 1);
        }
        return most;
    }

    /** The state of each copy, NONE for those that were not looked at. */
    int[] grouping(int f) {
        List<Integer> all = looked(f);
        int[] best = null;
        for (int[] row : PARTITIONS.get(all.size())) {
            if ((best == null || groupsOf(row) < groupsOf(best)) && allAgree(f, all, row)) {
                best = row;
            }
        }
        int[] of = new int[9];
        java.util.Arrays.fill(of, NONE);
        for (int i = 0; i < all.size(); i++) {
            of[all.get(i)] = best[i];
        }
        return of;
    }

    private boolean allAgree(int f, List<Integer> all, int[] row) {
        for (int i = 0; i < row.length; i++) {
            for (int j = 0; j < i; j++) {
                if (row[i] == row[j] && !agrees(f, all.get(i), all.get(j))) return false;
            }
        }
        return true;
    }

    int states(int f) {
        if (no(f, 6)) return UNKNOWN;
        return groupsOf(grouping(f));
    }

    int state(int f, int c) {
        if (no(f, 6) || no(c, 9)) return UNKNOWN;
        return grouping(f)[c];
    }

    int letterOf(int f, int[] of, int s, int p) {
        int found = NONE;
        for (int c = 0; c < 9; c++) {
            if (of[c] == s && reading[f][c][p] != NONE) {
                if (found != NONE && found != reading[f][c][p]) throw new IllegalStateException("two letters");
                found = reading[f][c][p];
            }
        }
        return found;
    }

    int letter(int f, int s, int p) {
        if (no(f, 6) || no(p, 6) || no(s, states(f))) return UNKNOWN;
        return letterOf(f, grouping(f), s, p);
    }

    int slips(int f, int n) {
        if (no(f, 6)) return UNKNOWN;
        if (n < 1 || n > 9) return OUTSIDE;
        List<Integer> all = looked(f);
        int best = Integer.MAX_VALUE;
        for (int[] row : PARTITIONS.get(all.size())) {
            if (groupsOf(row) <= n) best = Math.min(best, taken(f, all, row));
        }
        return best;
    }

    private int taken(int f, List<Integer> all, int[] row) {
        int[][][] times = new int[9][6][10];
        for (int i = 0; i < row.length; i++) {
            for (int p = 0; p < 6; p++) {
                int k = reading[f][all.get(i)][p];
                if (k != NONE) times[row[i]][p][k]++;
            }
        }
        int sum = 0;
        for (int[][] group : times) {
            for (int[] place : group) {
                int most = 0;
                for (int t : place) {
                    most = Math.max(most, t);
                    sum += t;
                }
                sum -= most;
            }
        }
        return sum;
    }

    // ---- orders

    int ahead(int f, int a, int b, boolean is) {
        if (no(f, 6) || no(a, 9) || no(b, 9)) return UNKNOWN;
        if (a == b) return STATE;
        int was = ahead[f][a][b] ? 1 : 0;
        ahead[f][a][b] = is;
        return was;
    }

    int changesOf(int f, int[] of, int a, int b) {
        int sum = 0;
        for (int p = 0; p < 6; p++) {
            int x = letterOf(f, of, a, p);
            int y = letterOf(f, of, b, p);
            if (x != NONE && y != NONE && x != y) sum++;
        }
        return sum;
    }

    int changes(int f, int a, int b) {
        if (no(f, 6) || no(a, states(f)) || no(b, states(f))) return UNKNOWN;
        return changesOf(f, grouping(f), a, b);
    }

    /** Goes through all orders and keeps the least ones. */
    static final class Orders {
        final int n;
        final int[][] step;
        final boolean[][] first;
        int cost = NONE;
        int ways = 0;
        int[] row;
        final int[][] before;
        private final int[] now;

        Orders(int n, int[][] step, boolean[][] first) {
            this.n = n;
            this.step = step;
            this.first = first;
            before = new int[n][n];
            now = new int[n];
            go(0, 0, 0);
        }

        private void go(int i, int gone, int sum) {
            if (i == n) {
                keep(sum);
                return;
            }
            for (int s = 0; s < n; s++) {
                if ((gone >> s & 1) == 0) {
                    now[i] = s;
                    go(i + 1, gone | 1 << s, i == 0 ? 0 : sum + step[now[i - 1]][s]);
                }
            }
        }

        private void keep(int sum) {
            for (int i = 0; i < n; i++) {
                for (int j = i + 1; j < n; j++) {
                    if (first[now[j]][now[i]]) return;
                }
            }
            if (cost == NONE || sum < cost) {
                cost = sum;
                ways = 0;
                row = now.clone();
                for (int[] b : before) {
                    java.util.Arrays.fill(b, 0);
                }
            }
            if (sum == cost) {
                ways++;
                for (int i = 0; i < n; i++) {
                    for (int j = i + 1; j < n; j++) {
                        before[now[i]][now[j]]++;
                    }
                }
            }
        }
    }

    Orders allOrders(int f) {
        int[] of = grouping(f);
        int n = groupsOf(of);
        int[][] step = new int[n][n];
        boolean[][] first = new boolean[n][n];
        for (int a = 0; a < n; a++) {
            for (int b = 0; b < n; b++) {
                step[a][b] = changesOf(f, of, a, b);
            }
        }
        for (int a = 0; a < 9; a++) {
            for (int b = 0; b < 9; b++) {
                if (ahead[f][a][b] && of[a] != NONE && of[b] != NONE && of[a] != of[b]) first[of[a]][of[b]] = true;
            }
        }
        return new Orders(n, step, first);
    }

    int least(int f) {
        return no(f, 6) ? UNKNOWN : allOrders(f).cost;
    }

    int orders(int f) {
        return no(f, 6) ? UNKNOWN : allOrders(f).ways;
    }

    int first(int f, int i) {
        if (no(f, 6)) return UNKNOWN;
        int[] row = allOrders(f).row;
        return row == null || no(i, row.length) ? NONE : row[i];
    }

    int before(int f, int a, int b) {
        if (no(f, 6) || no(a, states(f)) || no(b, states(f))) return UNKNOWN;
        if (a == b) return STATE;
        return allOrders(f).before[a][b];
    }

    // ---- type, days

    int piece(int p, int f, int how) {
        if (no(p, 16) || no(f, 6)) return UNKNOWN;
        if (how != NONE && how != 0 && how != 1) return OUTSIDE;
        int was = piece[p][f];
        piece[p][f] = how;
        return was;
    }

    boolean shares(int a, int b) {
        for (int[] p : piece) {
            if (p[a] != NONE && p[b] != NONE) return true;
        }
        return false;
    }

    int share(int a, int b) {
        if (no(a, 6) || no(b, 6)) return UNKNOWN;
        return shares(a, b) ? 1 : 0;
    }

    boolean musts(int a, int b, int steps) {
        for (int[] p : piece) {
            if (p[a] == 0 && p[b] == 1) return true;
        }
        if (steps == 0) return false;
        for (int[] p : piece) {
            for (int c = 0; c < 6; c++) {
                if (p[a] == 0 && p[c] == 1 && musts(c, b, steps - 1)) return true;
            }
        }
        return false;
    }

    int must(int a, int b) {
        if (no(a, 6) || no(b, 6)) return UNKNOWN;
        return musts(a, b, 5) ? 1 : 0;
    }

    int ring() {
        int sum = 0;
        for (int f = 0; f < 6; f++) {
            if (musts(f, f, 5)) sum++;
        }
        return sum;
    }

    int presses(int v) {
        if (v < 1 || v > 6) return OUTSIDE;
        int was = presses;
        presses = v;
        return was;
    }

    boolean told(int f) {
        return shares(f, f);
    }

    /** All plans, in order: the day of each forme, NONE for those that are not told of. */
    List<int[]> allPlans(int d) {
        boolean[][] share = new boolean[6][6];
        boolean[][] must = new boolean[6][6];
        for (int a = 0; a < 6; a++) {
            for (int b = 0; b < 6; b++) {
                share[a][b] = a != b && shares(a, b);
                must[a][b] = musts(a, b, 5);
            }
        }
        List<int[]> all = new ArrayList<>();
        planOn(new int[6], 0, d, share, must, all);
        return all;
    }

    private void planOn(int[] row, int f, int d, boolean[][] share, boolean[][] must, List<int[]> all) {
        if (f == 6) {
            if (isPlan(row, share, must)) all.add(row.clone());
            return;
        }
        if (!told(f)) {
            row[f] = NONE;
            planOn(row, f + 1, d, share, must, all);
            return;
        }
        for (int day = 0; day < d; day++) {
            row[f] = day;
            planOn(row, f + 1, d, share, must, all);
        }
    }

    private boolean isPlan(int[] row, boolean[][] share, boolean[][] must) {
        int[] on = new int[6];
        for (int a = 0; a < 6; a++) {
            if (row[a] != NONE && ++on[row[a]] > presses) return false;
            for (int b = 0; b < 6; b++) {
                if (share[a][b] && row[a] == row[b]) return false;
                if (must[a][b] && row[a] >= row[b]) return false;
            }
        }
        return true;
    }

    int plans(int d) {
        if (d < 1 || d > 6) return OUTSIDE;
        return allPlans(d).size();
    }

    int day(int d, int f) {
        if (no(f, 6)) return UNKNOWN;
        if (d < 1 || d > 6) return OUTSIDE;
        List<int[]> all = allPlans(d);
        return all.isEmpty() ? NONE : all.get(0)[f];
    }

    int beside(int d, int a, int b) {
        if (no(a, 6) || no(b, 6)) return UNKNOWN;
        if (d < 1 || d > 6) return OUTSIDE;
        if (!told(a) || !told(b)) return STATE;
        int sum = 0;
        for (int[] row : allPlans(d)) {
            if (row[a] == row[b]) sum++;
        }
        return sum;
    }

    int fewest() {
        for (int d = 1; d <= 6; d++) {
            if (plans(d) > 0) return d;
        }
        return NONE;
    }

    // ---- heaps

    int sheet(int f, int k) {
        if (no(f, 6)) return UNKNOWN;
        if (no(k, 10)) return OUTSIDE;
        if (sheets.get(f).size() == 12) return STATE;
        sheets.get(f).add(k);
        return sheets.get(f).size();
    }

    int size(int v) {
        if (v < 1 || v > 12) return OUTSIDE;
        int was = size;
        size = v;
        return was;
    }

    int seen(int f, int b, int k) {
        if (no(f, 6) || no(b, 12)) return UNKNOWN;
        if (k != NONE && no(k, 10)) return OUTSIDE;
        int was = seen[f][b];
        seen[f][b] = k;
        return was;
    }

    List<List<Integer>> heaps(int f) {
        List<List<Integer>> all = new ArrayList<>();
        for (int k : sheets.get(f)) {
            if (all.isEmpty() || all.get(all.size() - 1).size() == size) all.add(new ArrayList<>());
            all.get(all.size() - 1).add(k);
        }
        return all;
    }

    /** What is gathered, if the heaps of this set are turned. */
    List<Integer> gathered(int f, int turned) {
        List<Integer> out = new ArrayList<>();
        List<List<Integer>> all = heaps(f);
        for (int h = 0; h < all.size(); h++) {
            List<Integer> heap = new ArrayList<>(all.get(h));
            if ((turned >> h & 1) == 0) java.util.Collections.reverse(heap);
            out.addAll(heap);
        }
        return out;
    }

    boolean fitsSeen(int f, int turned) {
        List<Integer> books = gathered(f, turned);
        for (int b = 0; b < books.size(); b++) {
            if (seen[f][b] != NONE && seen[f][b] != books.get(b)) return false;
        }
        return true;
    }

    int turns(int f) {
        if (no(f, 6)) return UNKNOWN;
        int sum = 0;
        for (int set = 0; set < 1 << heaps(f).size(); set++) {
            if (fitsSeen(f, set)) sum++;
        }
        return sum;
    }

    int turned(int f, int h) {
        if (no(f, 6) || no(h, heaps(f).size())) return UNKNOWN;
        return (mayBe(f, h, 0) ? 1 : 0) + (mayBe(f, h, 1 << h) ? 2 : 0);
    }

    private boolean mayBe(int f, int h, int set) {
        List<Integer> books = gathered(f, set);
        for (int b = h * size; b < (h + 1) * size && b < books.size(); b++) {
            if (seen[f][b] != NONE && seen[f][b] != books.get(b)) return false;
        }
        return true;
    }

    int bound(int f, int b, boolean turned) {
        if (no(f, 6) || no(b, 12)) return UNKNOWN;
        List<Integer> books = gathered(f, turned ? 4095 : 0);
        return b < books.size() ? books.get(b) : NONE;
    }

    // ---- men

    int house(int m, int p) {
        if (m < 1 || m > 4 || p < 1 || p > 12) return OUTSIDE;
        int was = men;
        men = m;
        pages = p;
        return was;
    }

    int habit(int m, int w, int form) {
        if (no(m, men) || no(w, 6)) return UNKNOWN;
        if (form != NONE && no(form, 2)) return OUTSIDE;
        int was = habit[m][w];
        habit[m][w] = form;
        return was;
    }

    int spell(int p, int w, int form, int t) {
        if (no(p, pages) || no(w, 6)) return UNKNOWN;
        if (no(form, 2) || no(t, 10)) return OUTSIDE;
        int was = times[p][w][form];
        times[p][w][form] = t;
        return was;
    }

    int change(int v) {
        if (v < 0 || v > 99) return OUTSIDE;
        int was = change;
        change = v;
        return was;
    }

    int against(int p, int m) {
        if (no(p, pages) || no(m, men)) return UNKNOWN;
        int sum = 0;
        for (int w = 0; w < 6; w++) {
            if (habit[m][w] == 0) sum += times[p][w][1];
            if (habit[m][w] == 1) sum += times[p][w][0];
        }
        return sum;
    }

    /** All settings that cost least, in order. */
    List<int[]> bestSettings() {
        List<int[]> best = new ArrayList<>();
        int least = Integer.MAX_VALUE;
        int[] row = new int[pages];
        while (true) {
            int cost = costOf(row);
            if (cost < least) {
                least = cost;
                best.clear();
            }
            if (cost == least) best.add(row.clone());
            int i = pages - 1;
            while (i >= 0 && row[i] == men - 1) {
                row[i--] = 0;
            }
            if (i < 0) return best;
            row[i]++;
        }
    }

    int costOf(int[] row) {
        int sum = 0;
        for (int p = 0; p < pages; p++) {
            sum += against(p, row[p]) + (p > 0 && row[p] != row[p - 1] ? change : 0);
        }
        return sum;
    }

    int setting() {
        return costOf(bestSettings().get(0));
    }

    int who(int p) {
        return no(p, pages) ? UNKNOWN : bestSettings().get(0)[p];
    }

    int sure(int p) {
        if (no(p, pages)) return UNKNOWN;
        List<int[]> all = bestSettings();
        for (int[] row : all) {
            if (row[p] != all.get(0)[p]) return 0;
        }
        return 1;
    }

    int settings() {
        return bestSettings().size();
    }

    int count(int what) {
        if (no(what, 7)) return OUTSIDE;
        if (what == 5) return men;
        if (what == 6) return pages;
        int sum = 0;
        for (int f = 0; f < 6; f++) {
            if (what == 2 && told(f)) sum++;
            if (what == 3) sum += sheets.get(f).size();
            for (int b = 0; b < 12; b++) {
                if (what == 4 && seen[f][b] != NONE) sum++;
            }
            for (int a = 0; a < 9; a++) {
                for (int i = 0; i < 6; i++) {
                    if (what == 0 && reading[f][a][i] != NONE) sum++;
                }
                for (int b = 0; b < 9; b++) {
                    if (what == 1 && ahead[f][a][b]) sum++;
                }
            }
        }
        return sum;
    }
}
