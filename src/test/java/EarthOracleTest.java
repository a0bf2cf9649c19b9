import java.util.ArrayList;
import java.util.Arrays;
import java.util.List;
import java.util.Random;

/** Part EARTH against a program that tries all plans there are, with amounts so small that it can. */
public final class EarthOracleTest {
    final List<int[]> cuts = new ArrayList<>();
    final List<int[]> pits = new ArrayList<>();
    final List<int[]> fills = new ArrayList<>();
    final List<int[]> ways = new ArrayList<>();
    final boolean[][] barred = new boolean[6][12];
    final int[][] swell = {{1, 1}, {1, 1}, {1, 1}, {1, 1}};
    final boolean[][] unfit = new boolean[4][8];
    final int[] most = new int[12];
    int[] plan;
    boolean clashed;
    List<Integer> clashing;

    int sources() {
        return cuts.size() + pits.size();
    }

    int gives(int s) {
        int[] c = cuts.get(s);
        return c[0] * swell[c[1]][0] / swell[c[1]][1];
    }

    int metre(int s) {
        return s < cuts.size() ? cuts.get(s)[3] : pits.get(s - cuts.size())[0];
    }

    boolean serves(int s, int f) {
        return s >= cuts.size() || !unfit[cuts.get(s)[1]][f] && cuts.get(s)[2] <= fills.get(f)[1];
    }

    int unit(int s, int f, int without) {
        int a = metre(s);
        int b = fills.get(f)[2];
        int best = Math.abs(a - b);
        for (int w = 0; w < ways.size(); w++) {
            int[] y = ways.get(w);
            if (w != without && !barred[w][fills.get(f)[1]]) {
                best = Math.min(best, Math.abs(a - y[0]) + y[2] + Math.abs(y[1] - b));
                best = Math.min(best, Math.abs(a - y[1]) + y[2] + Math.abs(y[0] - b));
            }
        }
        return best + (s < cuts.size() ? 0 : pits.get(s - cuts.size())[1]);
    }

    // search over plans
    int[] best;
    int bestCost;
    int bestSum;
    boolean[] short0;
    int lessCut = -1;
    int moreFill = -1;
    int noWay = -1;
    int[][] price;

    int want(int f) {
        return fills.get(f)[0] + (f == moreFill ? 1 : 0);
    }

    void search(int s, int f, int[] x, int[] left, int[] need, boolean whole, int cost) {
        if (s == sources()) {
            if (whole) {
                for (int n : need) {
                    if (n != 0) {
                        return;
                    }
                }
                if (best == null || cost < bestCost || cost == bestCost && Arrays.compare(x, best) > 0) {
                    best = x.clone();
                    bestCost = cost;
                }
            } else {
                int sum = Arrays.stream(x).sum();
                if (sum > bestSum) {
                    bestSum = sum;
                    short0 = new boolean[fills.size()];
                }
                for (int k = 0; k < need.length && sum == bestSum; k++) {
                    short0[k] |= need[k] > 0;
                }
            }
            return;
        }
        int n = fills.size();
        if (f == n) {
            search(s + 1, 0, x, left, need, whole, cost);
            return;
        }
        int cap = serves(s, f) ? need[f] : 0;
        if (s < cuts.size()) {
            cap = Math.min(cap, left[s]);
        }
        int week = fills.get(f)[1];
        if (most[week] >= 0) {
            int used = 0;
            for (int g = 0; g < n; g++) {
                used += fills.get(g)[1] == week ? want(g) - need[g] : 0;
            }
            cap = Math.min(cap, most[week] - used);
        }
        for (int v = cap; v >= 0; v--) {
            x[s * n + f] = v;
            need[f] -= v;
            if (s < cuts.size()) {
                left[s] -= v;
            }
            search(s, f + 1, x, left, need, whole, cost + v * price[s][f]);
            need[f] += v;
            if (s < cuts.size()) {
                left[s] += v;
            }
            x[s * n + f] = 0;
        }
    }

    void findBest(boolean whole) {
        best = null;
        bestCost = 0;
        bestSum = -1;
        int n = fills.size();
        int[] left = new int[cuts.size()];
        for (int s = 0; s < left.length; s++) {
            left[s] = gives(s) - (s == lessCut ? 1 : 0);
        }
        int[] need = new int[n];
        price = new int[sources()][n];
        for (int f = 0; f < n; f++) {
            need[f] = want(f);
            for (int s = 0; s < sources(); s++) {
                price[s][f] = unit(s, f, noWay);
            }
        }
        search(0, 0, new int[sources() * n], left, need, whole, 0);
    }

    static void due(Check c, String name, RoadHouse x, long want, int... call) {
        int[] a = Arrays.copyOf(call, 6);
        c.due(name + " " + Arrays.toString(call), x.act(a[0], a[1], a[2], a[3], a[4], a[5]), want);
    }

    void gone() {
        plan = null;
        clashed = false;
    }

    /** Within a few metres, and with more cuts, many plans are as dear as each other. */
    void build(Check c, RoadHouse x, String name, Random r, int metres) {
        for (int k = 1 + r.nextInt(metres < 5 ? 4 : 3); k > 0; k--) {
            int[] v = {1 + r.nextInt(3), r.nextInt(2), r.nextInt(metres < 5 ? 2 : 3), r.nextInt(metres)};
            due(c, name, x, cuts.size(), 100, v[0], v[1], v[2], v[3]);
            cuts.add(v);
        }
        for (int k = r.nextInt(2); k > 0; k--) {
            int[] v = {r.nextInt(metres), r.nextInt(metres < 5 ? 3 : 6)};
            due(c, name, x, pits.size(), 106, v[0], v[1]);
            pits.add(v);
        }
        for (int k = 1 + r.nextInt(3); k > 0; k--) {
            int[] v = {1 + r.nextInt(3), r.nextInt(4), r.nextInt(metres)};
            due(c, name, x, fills.size(), 101, v[0], v[1], v[2]);
            fills.add(v);
        }
        for (int k = r.nextInt(3); k > 0; k--) {
            int[] v = {r.nextInt(metres), r.nextInt(metres), r.nextInt(5)};
            due(c, name, x, ways.size(), 104, v[0], v[1], v[2]);
            ways.add(v);
        }
        gone();
    }

    void change(Check c, RoadHouse x, String name, Random r) {
        int what = r.nextInt(4);
        if (what < 3) {
            gone();
        }
        switch (what) {
            case 0: {
                int k = r.nextInt(2);
                swell[k] = new int[] {1 + r.nextInt(4), 1 + r.nextInt(4)};
                due(c, name, x, 1, 102, k, swell[k][0], swell[k][1]);
                break;
            }
            case 1: {
                int k = r.nextInt(2);
                int f = r.nextInt(fills.size());
                unfit[k][f] = r.nextBoolean();
                due(c, name, x, 1, 103, k, f, unfit[k][f] ? 0 : 3);
                break;
            }
            case 2: {
                int w = r.nextInt(4);
                most[w] = r.nextInt(7);
                due(c, name, x, 1, 107, w, most[w]);
                break;
            }
            default: {
                int w = r.nextInt(3);
                int from = r.nextInt(4);
                int to = r.nextInt(4);
                boolean can = w < ways.size() && from <= to;
                due(c, name, x, can ? 1 : 0, 105, w, from, to);
                if (can) {
                    gone();
                }
                for (int k = from; k <= to && can; k++) {
                    barred[w][k] = true;
                }
            }
        }
    }

    void changed(Check c, RoadHouse x, String name, int side, int k, int... call) {
        findBest(true);
        boolean can = best != null;
        int[] a = Arrays.copyOf(call, call.length + 1);
        a[call.length] = 0;
        due(c, name, x, can ? bestCost - planCost : 0, a);
        a[call.length] = 1;
        due(c, name, x, can ? 1 : 0, a);
    }

    int planCost;

    void compare(Check c, RoadHouse x, String name) {
        int n = fills.size();
        long[] sums = new long[3];
        for (int s = 0; s < sources(); s++) {
            for (int f = 0; f < n; f++) {
                long v = plan == null ? -1 : plan[s * n + f];
                long all = plan == null ? -1 : v * unit(s, f, -1);
                due(c, name, x, v, 109, s, f, 0);
                due(c, name, x, all, 109, s, f, 1);
                sums[0] += all;
                sums[1] += v;
                sums[2] += s >= cuts.size() ? v : 0;
            }
        }
        planCost = (int) sums[0];
        for (int k = 0; k < 3; k++) {
            due(c, name, x, plan == null ? -1 : sums[k], 110, k);
        }
        due(c, name, x, plan == null ? -1 : 0, 116);
        for (int k = 0; k <= n; k++) {
            due(c, name, x, clashed && k < clashing.size() ? clashing.get(k) : -1, 112, k);
        }
        for (int m = 0; m < 31; m += 3) {
            long[] q = new long[4];
            for (int s = 0; s < cuts.size(); s++) {
                q[0] += metre(s) <= m ? gives(s) : 0;
            }
            for (int f = 0; f < n; f++) {
                q[1] += fills.get(f)[2] <= m ? fills.get(f)[0] : 0;
                for (int s = 0; s < sources() && plan != null; s++) {
                    q[2] += metre(s) <= m && fills.get(f)[2] > m ? plan[s * n + f] : 0;
                    q[3] += metre(s) > m && fills.get(f)[2] <= m ? plan[s * n + f] : 0;
                }
            }
            for (int k = 0; k < 4; k++) {
                due(c, name, x, k > 1 && plan == null ? -1 : q[k], 115, m, k);
            }
        }
        for (int week = 0; week < 4; week++) {
            int k = 0;
            for (int s = 0; s < sources() && plan != null; s++) {
                for (int f = 0; f < n; f++) {
                    if (fills.get(f)[1] == week && plan[s * n + f] > 0) {
                        due(c, name, x, s, 114, week, k, 0);
                        due(c, name, x, f, 114, week, k, 1);
                        due(c, name, x, plan[s * n + f], 114, week, k, 2);
                        k++;
                    }
                }
            }
            due(c, name, x, -1, 114, week, k, 0);
        }
        for (int s = 0; s <= cuts.size(); s++) {
            long left = s < cuts.size() ? gives(s) : 0;
            for (int f = 0; f < n && s < cuts.size() && plan != null; f++) {
                left -= plan[s * n + f];
            }
            boolean can = plan != null && s < cuts.size();
            due(c, name, x, can ? left : -1, 117, s, 0);
            due(c, name, x, can ? gives(s) : -1, 117, s, 1);
            if (can && gives(s) > 0) {
                lessCut = s;
                changed(c, x, name, 0, s, 111, 0, s);
                lessCut = -1;
            } else {
                due(c, name, x, -1, 111, 0, s, 0);
            }
        }
        for (int f = 0; f <= n; f++) {
            if (plan != null && f < n) {
                moreFill = f;
                changed(c, x, name, 1, f, 111, 1, f);
                moreFill = -1;
            } else {
                due(c, name, x, -1, 111, 1, f, 0);
            }
        }
        for (int w = 0; w <= ways.size(); w++) {
            if (plan != null && w < ways.size()) {
                noWay = w;
                changed(c, x, name, 2, w, 113, w);
                noWay = -1;
            } else {
                due(c, name, x, -1, 113, w, 0);
            }
        }
    }

    public static void main(String[] args) {
        Check c = new Check("EarthOracleTest");
        int runs = args.length > 0 ? Integer.parseInt(args[0]) : 800;
        int planned = 0;
        int clashes = 0;
        for (int run = 0; run < runs; run++) {
            Random r = new Random(run);
            EarthOracleTest o = new EarthOracleTest();
            Arrays.fill(o.most, -1);
            RoadHouse x = new RoadHouse();
            String name = "run " + run;
            o.build(c, x, name, r, run % 3 == 0 ? 30 : run % 3 == 1 ? 4 : 2);
            for (int round = 0; round < 4; round++) {
                int steps = o.sources() * o.fills.size();
                c.dueThrow(x, IllegalStateException.class, 108, steps - 1);
                o.compare(c, x, name);
                o.findBest(true);
                o.plan = o.best;
                o.clashed = o.best == null;
                if (o.clashed) {
                    clashes++;
                    o.findBest(false);
                    o.clashing = new ArrayList<>();
                    for (int f = 0; f < o.fills.size(); f++) {
                        if (o.short0[f]) {
                            o.clashing.add(f);
                        }
                    }
                } else {
                    planned++;
                }
                due(c, name, x, o.clashed ? 1 : 0, 108, steps);
                o.compare(c, x, name);
                o.change(c, x, name, r);
            }
        }
        System.out.println("EarthOracleTest: planned " + planned + ", clashed " + clashes);
        c.end();
    }
}
