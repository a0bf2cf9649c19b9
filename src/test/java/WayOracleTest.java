import java.util.ArrayList;
import java.util.Arrays;
import java.util.Collections;
import java.util.HashMap;
import java.util.HashSet;
import java.util.List;
import java.util.Map;
import java.util.Random;
import java.util.Set;

/** Part WAY against a program that finds all labels by going round until nothing gets better, and then sorts them. */
public final class WayOracleTest {
    static final int[][] H = {{1, 0}, {2, 1}, {1, 1}, {1, 2}, {0, 1}, {-1, 2}, {-1, 1}, {-2, 1}};
    final int[] cost = new int[144];
    final int[] level = new int[144];
    final boolean[] barred = new boolean[144];
    final int[] most = new int[144];
    final int[] cents = new int[144];
    final int[] zone = new int[144];
    final int[][] value = new int[4][144];
    final int[][] marks = new int[8][144];
    final Frac[] weight = {Frac.ZERO, Frac.ZERO, Frac.ZERO, Frac.ZERO};
    int reach = 1;
    int slope = 9999;
    int turn = 8;
    List<List<Integer>> found = new ArrayList<>();
    int nodes;
    long bound = -1;
    boolean proved;

    static int dx(int h) {
        return h < 8 ? H[h][0] : -H[h - 8][0];
    }

    static int dy(int h) {
        return h < 8 ? H[h][1] : -H[h - 8][1];
    }

    static int len(int h) {
        return h % 2 == 1 ? 22 : h % 4 == 0 ? 10 : 14;
    }

    boolean bridged(int c) {
        return barred[c] && most[c] > 0;
    }

    int aim(int a, int c) {
        int v = value[a][c];
        for (int p = 0; p < 8 && a == 3; p++) {
            v += 10 * marks[p][c];
        }
        return v;
    }

    Frac price(int c) {
        if (bridged(c)) {
            return Frac.of(cents[c]);
        }
        Frac sum = Frac.of(cost[c]);
        for (int a = 0; a < 4; a++) {
            sum = sum.plus(weight[a].times(aim(a, c)));
        }
        return sum;
    }

    /** The label behind a move: {cell, heading, R, S}; null: no such move. */
    int[] move(int[] l, int h, Set<Integer> shared) {
        if (h % 2 == 1 && reach == 1) {
            return null;
        }
        int x = l[0] % 12 + dx(h);
        int y = l[0] / 12 + dy(h);
        if (x < 0 || y < 0 || x > 11 || y > 11) {
            return null;
        }
        int to = 12 * y + x;
        if (barred[to] && !bridged(to) || Math.abs(level[l[0]] - level[to]) > slope) {
            return null;
        }
        if (l[1] != 16) {
            int d = Math.abs(l[1] - h);
            if (Math.min(d, 16 - d) > turn) {
                return null;
            }
            if ((bridged(to) || bridged(l[0])) && l[1] != h) {
                return null;
            }
        }
        int r = bridged(to) ? l[2] + 1 : 0;
        if (r > most[to] && r > 0) {
            return null;
        }
        int s = l[3] - (shared.contains(to) ? 1 : 0);
        return s < 0 ? null : new int[] {to, h, r, s};
    }

    static final class Best {
        Frac cost;
        int turns;
        int moves;

        Best(Frac c, int t, int m) {
            cost = c;
            turns = t;
            moves = m;
        }

        int compare(Best o) {
            int c = cost.compareTo(o.cost);
            return c != 0 ? c : turns != o.turns ? Integer.compare(turns, o.turns) : Integer.compare(moves, o.moves);
        }
    }

    static int key(int[] l) {
        return 612 * l[0] + 36 * l[1] + 9 * l[2] + l[3];
    }

    Map<Integer, Best> best;
    Map<Integer, int[]> labels;

    void findLabels(int start, int end, int m, Set<Integer> shared) {
        best = new HashMap<>();
        labels = new HashMap<>();
        List<int[]> all = new ArrayList<>();
        for (int c = 0; c < 144; c++) {
            if (barred[c] && !bridged(c)) {
                continue;
            }
            for (int h = 0; h <= 16; h++) {
                if (h == 16 ? c != start : h % 2 == 1 && reach == 1) {
                    continue;
                }
                for (int r = bridged(c) ? 1 : 0; r <= (bridged(c) ? most[c] : 0); r++) {
                    for (int s = 0; s <= m; s++) {
                        all.add(new int[] {c, h, r, s});
                    }
                }
            }
        }
        for (int h = 0; h < 16; h++) {
            if (h % 2 == 0 || reach == 2) {
                int[] l = {end, h, 0, 0};
                best.put(key(l), new Best(Frac.ZERO, 0, 0));
                labels.put(key(l), l);
            }
        }
        // as every label's best is found by going round over all of them, the order does not matter
        Frac[] prices = new Frac[144];
        for (int c = 0; c < 144; c++) {
            prices[c] = price(c);
        }
        boolean better = true;
        while (better) {
            better = false;
            for (int[] l : all) {
                for (int h = 0; h < 16; h++) {
                    int[] n = move(l, h, shared);
                    Best b = n == null ? null : best.get(key(n));
                    if (b == null) {
                        continue;
                    }
                    Best mine = new Best(b.cost.plus(prices[n[0]].times(len(h))), b.turns + (l[1] != 16 && l[1] != h ? 1 : 0), b.moves + 1);
                    Best was = best.get(key(l));
                    if (was == null || mine.compare(was) < 0) {
                        best.put(key(l), mine);
                        labels.put(key(l), l);
                        better = true;
                    }
                }
            }
        }
    }

    long search(int start, int end, int m, Set<Integer> shared) {
        findLabels(start, end, m, shared);
        List<Integer> order = new ArrayList<>(best.keySet());
        order.sort((a, b) -> {
            int c = best.get(a).compare(best.get(b));
            return c != 0 ? c : Integer.compare(a, b);
        });
        int closed = 0;
        int first = -1;
        for (int k : order) {
            if (closed == nodes) {
                proved = false;
                return -2;
            }
            closed++;
            bound = best.get(k).cost.whole().longValue();
            int[] l = labels.get(k);
            if (l[0] == start && l[1] == 16) {
                first = k;
                break;
            }
        }
        proved = true;
        if (first < 0) {
            return -1;
        }
        int[] l = labels.get(first);
        List<Integer> way = new ArrayList<>();
        way.add(l[0]);
        while (best.get(key(l)).moves > 0) {
            int[] next = null;
            Best b = best.get(key(l));
            for (int h = 0; h < 16; h++) {
                int[] n = move(l, h, shared);
                Best o = n == null ? null : best.get(key(n));
                if (o != null && o.moves + 1 == b.moves && o.turns + (l[1] != 16 && l[1] != h ? 1 : 0) == b.turns
                        && o.cost.plus(price(n[0]).times(len(h))).compareTo(b.cost) == 0 && (next == null || n[0] < next[0])) {
                    next = n;
                }
            }
            l = next;
            way.add(l[0]);
        }
        found.add(way);
        return way.size() - 1;
    }

    static int heading(int a, int b) {
        for (int h = 0; h < 16; h++) {
            if (b % 12 - a % 12 == dx(h) && b / 12 - a / 12 == dy(h)) {
                return h;
            }
        }
        throw new IllegalStateException();
    }

    Frac costOf(List<Integer> w) {
        Frac sum = Frac.ZERO;
        for (int k = 1; k < w.size(); k++) {
            sum = sum.plus(price(w.get(k)).times(len(heading(w.get(k - 1), w.get(k)))));
        }
        return sum;
    }

    long unlike(int a, int b) {
        if (a < 0 || a > b || b > 100 || b == 0 || found.isEmpty() || found.size() == 6) {
            return -3;
        }
        List<Integer> w = found.get(0);
        int start = w.get(0);
        int end = w.get(w.size() - 1);
        if (barred[start] || barred[end]) {
            return -3;
        }
        Set<Integer> shared = new HashSet<>();
        for (List<Integer> f : found) {
            shared.addAll(f);
        }
        shared.remove(start);
        shared.remove(end);
        return search(start, end, Math.min(8, (w.size() - 2) * a / b), shared);
    }

    long run(int x0, int y0, int x1, int y1, int n) {
        if (x0 < 0 || x0 > 11 || x1 < 0 || x1 > 11 || y0 < 0 || y0 > 11 || y1 < 0 || y1 > 11 || n < 1 || n > 100000) {
            return -3;
        }
        int s = 12 * y0 + x0;
        int e = 12 * y1 + x1;
        if (s == e || barred[s] || barred[e]) {
            return -3;
        }
        nodes = n;
        found.clear();
        return search(s, e, 0, Collections.emptySet());
    }

    boolean keeps() {
        if (found.isEmpty()) {
            return false;
        }
        List<Integer> w = found.get(found.size() - 1);
        if (barred[w.get(0)] || barred[w.get(w.size() - 1)]) {
            return false;
        }
        int[] l = {w.get(0), 16, 0, 0};
        for (int k = 1; k < w.size(); k++) {
            l = move(l, heading(w.get(k - 1), w.get(k)), Collections.emptySet());
            if (l == null) {
                return false;
            }
        }
        return true;
    }

    /** Of the span: least and greatest, by trying what each way found asks. */
    String span(int aim) {
        Frac was = weight[aim];
        List<Integer> hand = found.get(found.size() - 1);
        Set<Frac> tries = new HashSet<>();
        List<Frac> points = new ArrayList<>();
        points.add(Frac.ZERO);
        weight[aim] = Frac.ZERO;
        Frac[] a = new Frac[found.size()];
        Frac[] b = new Frac[found.size()];
        for (int k = 0; k < found.size(); k++) {
            weight[aim] = Frac.ZERO;
            a[k] = costOf(found.get(k));
            weight[aim] = Frac.ONE;
            b[k] = costOf(found.get(k)).minus(a[k]);
        }
        weight[aim] = was;
        int h = found.size() - 1;
        for (int k = 0; k < h; k++) {
            if (b[k].compareTo(b[h]) != 0) {
                Frac p = a[h].minus(a[k]).by(b[k].minus(b[h]));
                if (p.sign() >= 0) {
                    points.add(p);
                }
            }
        }
        Collections.sort(points);
        Frac least = null;
        Frac greatest = null;
        boolean endless = false;
        List<Frac> probes = new ArrayList<>(points);
        probes.add(points.get(points.size() - 1).plus(Frac.ONE));
        for (int i = 0; i < probes.size(); i++) {
            boolean ok = true;
            for (int k = 0; k < h; k++) {
                ok &= a[h].plus(b[h].times(probes.get(i))).compareTo(a[k].plus(b[k].times(probes.get(i)))) <= 0;
            }
            if (ok) {
                least = least == null ? probes.get(i) : least;
                greatest = probes.get(i);
                endless = i == probes.size() - 1;
            }
        }
        return least == null ? "-1 1 -1 1" : least.up + " " + least.low + " " + (endless ? "1 0" : greatest.up + " " + greatest.low);
    }

    static void due(Check c, String name, RoadHouse x, long want, int... call) {
        int[] a = Arrays.copyOf(call, 6);
        c.due(name + " " + Arrays.toString(call), x.act(a[0], a[1], a[2], a[3], a[4], a[5]), want);
    }

    void compare(Check c, RoadHouse x, String name, Random r) {
        due(c, name, x, bound, 8);
        due(c, name, x, proved ? 1 : 0, 9);
        List<Integer> w = found.isEmpty() ? new ArrayList<>() : found.get(found.size() - 1);
        for (int k = -1; k <= w.size(); k++) {
            boolean in = k >= 0 && k < w.size();
            due(c, name, x, in ? w.get(k) % 12 : -1, 6, k, 0);
            due(c, name, x, in ? w.get(k) / 12 : -1, 6, k, 1);
            due(c, name, x, in ? k == 0 ? 16 : heading(w.get(k - 1), w.get(k)) : -1, 6, k, 2);
        }
        Frac cost0 = costOf(w);
        due(c, name, x, w.isEmpty() ? -1 : cost0.up.longValue(), 7, 0);
        due(c, name, x, w.isEmpty() ? -1 : cost0.low.longValue(), 7, 1);
        int turns = 0;
        for (int k = 2; k < w.size(); k++) {
            turns += heading(w.get(k - 1), w.get(k)) == heading(w.get(k - 2), w.get(k - 1)) ? 0 : 1;
        }
        due(c, name, x, w.isEmpty() ? -1 : turns, 16);
        due(c, name, x, keeps() ? 1 : 0, 17);
        int z = r.nextInt(3);
        long sum = 0;
        for (int cell : w) {
            sum += zone[cell] == z ? cost[cell] : 0;
        }
        due(c, name, x, w.isEmpty() ? -1 : sum, 15, z);
        int aim = r.nextInt(4);
        String[] span = w.isEmpty() ? "-1 -1 -1 -1".split(" ") : span(aim).split(" ");
        for (int k = 0; k < 4; k++) {
            due(c, name, x, Long.parseLong(span[k]), 11, aim, k / 2, k % 2);
        }
    }

    void change(Check c, RoadHouse x, String name, Random r) {
        int px = r.nextInt(12);
        int py = r.nextInt(12);
        int cell = 12 * py + px;
        switch (r.nextInt(7)) {
            case 0:
                cost[cell] = r.nextInt(30);
                level[cell] = r.nextInt(8);
                due(c, name, x, 1, 0, px, py, cost[cell], level[cell]);
                break;
            case 1:
                due(c, name, x, barred[cell] ? 0 : 1, 1, px, py);
                barred[cell] = true;
                break;
            case 2: {
                int aim = r.nextInt(4);
                value[aim][cell] = r.nextInt(50);
                due(c, name, x, 1, 3, aim, px, py, value[aim][cell]);
                break;
            }
            case 3: {
                int aim = r.nextInt(4);
                int up = r.nextInt(21);
                int low = 1 + r.nextInt(6);
                weight[aim] = Frac.of(up, low);
                due(c, name, x, 1, 4, aim, up, low);
                break;
            }
            case 4:
                most[cell] = 1 + r.nextInt(3);
                cents[cell] = r.nextInt(60);
                due(c, name, x, 1, 12, px, py, most[cell], cents[cell]);
                break;
            case 5: {
                int p = r.nextInt(8);
                if (r.nextBoolean()) {
                    px = 3;
                    py = 2;
                    cell = 27;
                }
                marks[p][cell] = r.nextInt(4);
                int n = 0;
                for (int k = 0; k < 8; k++) {
                    n += marks[k][cell] != 0 ? 1 : 0;
                }
                due(c, name, x, n, 13, p, px, py, marks[p][cell]);
                break;
            }
            default: {
                int z = r.nextInt(3);
                due(c, name, x, zone[cell], 14, z, px, py);
                zone[cell] = z;
            }
        }
    }

    void fill(Check c, RoadHouse x, String name, Random r) {
        int w = 3 + r.nextInt(6);
        int h = 3 + r.nextInt(6);
        int bar = r.nextInt(4);
        int costs = 1 + r.nextInt(4) * r.nextInt(4);
        for (int cell = 0; cell < 144; cell++) {
            int px = cell % 12;
            int py = cell / 12;
            if (px >= w || py >= h || r.nextInt(10) < bar) {
                barred[cell] = true;
                due(c, name, x, 1, 1, px, py);
                if (px < w && py < h && r.nextInt(3) > 0) {
                    most[cell] = 1 + r.nextInt(3);
                    cents[cell] = r.nextInt(costs + 2);
                    due(c, name, x, 1, 12, px, py, most[cell], cents[cell]);
                }
            }
            if (px < w && py < h) {
                cost[cell] = r.nextInt(costs);
                level[cell] = r.nextInt(6);
                due(c, name, x, 1, 0, px, py, cost[cell], level[cell]);
                if (r.nextInt(3) == 0) {
                    int aim = r.nextInt(4);
                    value[aim][cell] = r.nextInt(3);
                    due(c, name, x, 1, 3, aim, px, py, value[aim][cell]);
                }
            }
        }
        for (int aim = 0; aim < 4; aim++) {
            int up = r.nextInt(3);
            int low = 1 + r.nextInt(6);
            weight[aim] = Frac.of(up, low);
            due(c, name, x, 1, 4, aim, up, low);
        }
        reach = 1 + r.nextInt(2);
        slope = r.nextBoolean() ? 9999 : 2 + r.nextInt(4);
        turn = r.nextBoolean() ? 8 : 1 + r.nextInt(7);
        due(c, name, x, 1, 2, reach, slope, turn);
    }

    public static void main(String[] args) {
        Check c = new Check("WayOracleTest");
        int runs = args.length > 0 ? Integer.parseInt(args[0]) : 150;
        int[] told = new int[5];
        for (int run = 0; run < runs; run++) {
            Random r = new Random(run);
            WayOracleTest o = new WayOracleTest();
            RoadHouse x = new RoadHouse();
            String name = "run " + run;
            o.fill(c, x, name, r);
            o.compare(c, x, name, r);
            for (int round = 0; round < 3; round++) {
                int n = r.nextInt(3) == 0 ? 1 + r.nextInt(300) : 100000;
                int[] e = {r.nextInt(5), r.nextInt(5), r.nextInt(8), r.nextInt(8)};
                for (int tries = 0; tries < 20 && (o.barred[12 * e[1] + e[0]] || o.barred[12 * e[3] + e[2]]); tries++) {
                    e = new int[] {r.nextInt(5), r.nextInt(5), r.nextInt(8), r.nextInt(8)};
                }
                long want = o.run(e[0], e[1], e[2], e[3], n);
                told[want < 0 ? (int) -want : 0]++;
                due(c, name, x, want, 5, e[0], e[1], e[2], e[3], n);
                o.compare(c, x, name, r);
                for (int k = 0; k < 3 && want > 0; k++) {
                    int low = 1 + r.nextInt(5);
                    int up = r.nextInt(low + 1);
                    long wantUnlike = o.unlike(up, low);
                    told[wantUnlike == -1 ? 4 : 0]++;
                    due(c, name, x, wantUnlike, 10, up, low);
                    o.compare(c, x, name, r);
                    if (r.nextInt(3) == 0) {
                        o.change(c, x, name, r);
                        o.compare(c, x, name, r);
                    }
                }
            }
        }
        System.out.println("WayOracleTest: ways, none, spent, refused, none unlike " + Arrays.toString(told));
        c.end();
    }
}
