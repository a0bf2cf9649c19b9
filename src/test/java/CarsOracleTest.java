import java.util.ArrayList;
import java.util.Arrays;
import java.util.Comparator;
import java.util.List;
import java.util.Random;

/** Part CARS against a program that keeps each state as an object of its own. */
public final class CarsOracleTest {
    static final int N = 24;

    static final class Join {
        int from;
        int to;
        int above;
        int below = 1;
        int rank;
    }

    static final class State {
        int step;
        long[] in = new long[N];
        long[] line = new long[N];
        long[] delay = new long[N];
        long[] moved = new long[200];
        long[] rest = new long[200];
        long out;
        long came;
        List<Long> acted = new ArrayList<>();
        List<long[]> was = new ArrayList<>();
        List<long[]> left = new ArrayList<>();

        State copy() {
            State s = new State();
            s.step = step;
            s.in = in.clone();
            s.line = line.clone();
            s.delay = delay.clone();
            s.moved = moved.clone();
            s.rest = rest.clone();
            s.out = out;
            s.came = came;
            s.acted.addAll(acted);
            s.was.addAll(was);
            s.left.addAll(left);
            return s;
        }
    }

    State now = new State();
    List<State> kept = new ArrayList<>();
    int[][] cell = new int[N][3];
    int[] meter = new int[N];
    int[] lane = new int[N];
    List<Join> joins = new ArrayList<>();
    List<int[]> settings = new ArrayList<>();
    List<int[]> comings = new ArrayList<>();
    List<int[]> reads = new ArrayList<>();
    List<int[]> rules = new ArrayList<>();

    int[] setting(int kind, int k, int t) {
        int[] best = null;
        for (int[] s : settings) {
            if (s[0] == kind && s[1] == k && s[2] <= t && (best == null || s[2] >= best[2])) {
                best = s;
            }
        }
        return best;
    }

    long cap(int k, int t) {
        int[] s = setting(1, k, t);
        return s == null ? cell[k][1] : (long) cell[k][1] * s[3] / s[4];
    }

    void step() {
        if (now.step == 200) {
            return;
        }
        State old = now.copy();
        int t = ++now.step;
        long[] left = new long[N];
        boolean[] held = new boolean[N];
        for (int[] rule : rules) {
            if (old.in[rule[0]] > rule[1]) {
                held[rule[2]] = true;
                now.acted.add(100L * t + rule[2]);
            }
        }
        long[] wants = new long[joins.size()];
        long[] can = new long[N];
        for (int k = 0; k < N; k++) {
            can[k] = Math.min(old.in[k], cap(k, t));
            int[] signal = setting(0, k, t);
            boolean goes = (signal == null || signal[3] != 0) && !held[k] && (meter[k] == 0 || (t - 1) % (2 * meter[k]) < meter[k]);
            long sends = goes ? can[k] : 0;
            List<Integer> mine = new ArrayList<>();
            for (int j = 0; j < joins.size(); j++) {
                if (joins.get(j).from == k) {
                    mine.add(j);
                }
            }
            if (mine.isEmpty()) {
                now.out += sends;
                now.in[k] -= sends;
                left[k] += sends;
                continue;
            }
            long remain = sends;
            for (int i = 0; i < mine.size() - 1; i++) {
                int j = mine.get(i);
                long all = sends * joins.get(j).above + old.rest[j];
                wants[j] = Math.min(remain, all / joins.get(j).below);
                now.rest[j] = all % joins.get(j).below;
                remain -= wants[j];
            }
            wants[mine.get(mine.size() - 1)] = remain;
        }
        for (int[] coming : comings) {
            if (coming[1] == t) {
                now.line[coming[0]] += coming[2];
                now.came += coming[2];
            }
        }
        for (int k = 0; k < N; k++) {
            long room = (cell[k][0] - lane[k] - old.in[k]) * cell[k][2];
            long take = Math.min(cap(k, t), room < 0 ? 0 : room / 100);
            List<Integer> mine = new ArrayList<>();
            for (int j = 0; j < joins.size(); j++) {
                if (joins.get(j).to == k) {
                    mine.add(j);
                }
            }
            mine.sort(Comparator.<Integer>comparingInt(j -> joins.get(j).rank).thenComparingInt(j -> joins.get(j).from));
            for (int j : mine) {
                long v = Math.min(take, wants[j]);
                take -= v;
                now.in[k] += v;
                now.in[joins.get(j).from] -= v;
                left[joins.get(j).from] += v;
                now.moved[j] += v;
            }
            long v = Math.min(take, now.line[k]);
            now.in[k] += v;
            now.line[k] -= v;
        }
        for (int k = 0; k < N; k++) {
            now.delay[k] += can[k] - left[k] + now.line[k];
        }
        now.was.add(now.in.clone());
        now.left.add(left);
    }

    int find(int a, int b) {
        for (int j = 0; j < joins.size(); j++) {
            if (joins.get(j).from == a && joins.get(j).to == b) {
                return j;
            }
        }
        return -1;
    }

    static void due(Check c, String name, RoadHouse x, long want, int... call) {
        int[] a = Arrays.copyOf(call, 6);
        c.due(name + " " + Arrays.toString(call), x.act(a[0], a[1], a[2], a[3], a[4], a[5]), want);
    }

    static boolean fraction(int a, int b) {
        return 0 <= a && a <= b && b <= 1000 && b != 0;
    }

    static boolean is(int k) {
        return k >= 0 && k < N;
    }

    static int cellNumber(Random r) {
        return r.nextInt(30) == 0 ? r.nextInt(3) * 25 - 1 : r.nextInt(7);
    }

    void set(Check c, RoadHouse x, String name, Random r) {
        int k = cellNumber(r);
        int b = cellNumber(r);
        int j = find(k, b);
        int step = now.step + r.nextInt(8) - 1 + (r.nextInt(20) == 0 ? 200 : 0);
        boolean comes = step > now.step && step <= 200;
        switch (r.nextInt(14)) {
            case 0: {
                int room = r.nextInt(2000);
                int most = r.nextInt(600);
                int speed = r.nextInt(110);
                boolean can = is(k) && speed <= 100 && now.in[k] <= room;
                for (State s : kept) {
                    can = can && s.in[k] <= room;
                }
                due(c, name, x, can ? 1 : 0, 600, k, room, most, speed);
                if (can) {
                    cell[k] = new int[] {room, most, speed};
                }
                break;
            }
            case 1: case 2: {
                boolean can = is(k) && is(b) && k != b && j < 0
                    && joins.stream().filter(q -> q.from == k).count() < 4 && joins.stream().filter(q -> q.to == b).count() < 4;
                due(c, name, x, can ? 1 : 0, 601, k, b);
                if (can) {
                    Join q = new Join();
                    q.from = k;
                    q.to = b;
                    joins.add(q);
                }
                break;
            }
            case 3: {
                int low = r.nextInt(9);
                int up = r.nextInt(9) - 1;
                boolean can = j >= 0 && fraction(up, low);
                due(c, name, x, can ? 1 : 0, 602, k, b, up, low);
                if (can) {
                    joins.get(j).above = up;
                    joins.get(j).below = low;
                    now.rest[j] = 0;
                    for (State s : kept) {
                        s.rest[j] = 0;
                    }
                }
                break;
            }
            case 4: {
                int rank = r.nextInt(12) - 1;
                boolean can = j >= 0 && rank >= 0 && rank <= 9;
                due(c, name, x, can ? 1 : 0, 603, b, k, rank);
                if (can) {
                    joins.get(j).rank = rank;
                }
                break;
            }
            case 5: {
                int v = r.nextInt(1500) - 20;
                boolean can = is(k) && v >= 0 && v <= cell[k][0];
                due(c, name, x, can ? 1 : 0, 604, k, v);
                if (can) {
                    now.came += v - now.in[k];
                    now.in[k] = v;
                }
                break;
            }
            case 6: {
                int v = r.nextInt(9) == 0 ? 100001 : r.nextInt(700);
                boolean can = is(k) && comes && v <= 100000 && comings.size() < 200;
                due(c, name, x, can ? 1 : 0, 605, k, step, v);
                if (can) {
                    comings.add(new int[] {k, step, v});
                }
                break;
            }
            case 7: {
                boolean green = r.nextBoolean();
                boolean can = is(k) && comes && settings.size() < 200;
                due(c, name, x, can ? 1 : 0, 606, k, step, green ? 9 : 0);
                if (can) {
                    settings.add(new int[] {0, k, step, green ? 1 : 0, 1});
                }
                break;
            }
            case 8: {
                int low = r.nextInt(9);
                int up = r.nextInt(9) - 1;
                boolean can = is(k) && comes && settings.size() < 200 && fraction(up, low);
                due(c, name, x, can ? 1 : 0, 614, k, step, up, low);
                if (can) {
                    settings.add(new int[] {1, k, step, up, low});
                }
                break;
            }
            case 9: {
                int v = r.nextInt(23) - 1;
                boolean can = is(k) && v >= 0 && v <= 20;
                due(c, name, x, can ? meter[k] : -1, 615, k, v);
                if (can) {
                    meter[k] = v;
                }
                break;
            }
            case 10: {
                int kind = r.nextInt(3) - (r.nextInt(9) == 0 ? 1 : 0);
                int v = r.nextInt(300) - 10;
                boolean can = is(k) && (kind == 0 || kind == 1 && v >= 0);
                due(c, name, x, can ? lane[k] : -1, 616, k, kind, v);
                if (can) {
                    lane[k] = kind == 0 ? 0 : v;
                }
                break;
            }
            case 11: {
                int v = r.nextInt(3) == 0 ? r.nextInt() : r.nextInt(100);
                boolean can = is(k) && step >= 0 && step <= 200 && reads.size() < 60;
                due(c, name, x, can ? 1 : 0, 617, k, step, v);
                if (can) {
                    reads.add(new int[] {k, step, v});
                }
                break;
            }
            case 12: {
                int above = r.nextInt(400) - 20;
                boolean can = is(k) && is(b) && above >= 0 && rules.size() < 12 && r.nextInt(2) == 0;
                if (can || above < 0 || !is(k) || !is(b)) {
                    due(c, name, x, can ? 1 : 0, 619, k, above, b);
                }
                if (can) {
                    rules.add(new int[] {k, above, b});
                }
                break;
            }
            default: {
                if (r.nextInt(4) == 0) {
                    due(c, name, x, kept.size() < 4 ? kept.size() : -1, 621);
                    if (kept.size() < 4) {
                        kept.add(now.copy());
                    }
                } else if (r.nextInt(2) == 0) {
                    int n = r.nextInt(5);
                    due(c, name, x, n < kept.size() ? 1 : 0, 622, n);
                    if (n < kept.size()) {
                        now = kept.get(n).copy();
                    }
                }
            }
        }
    }

    void compare(Check c, RoadHouse x, String name, Random r) {
        for (int k = -1; k < 8; k++) {
            due(c, name, x, is(k) ? now.in[k] : -1, 608, k);
            due(c, name, x, is(k) ? now.delay[k] : -1, 611, k);
        }
        due(c, name, x, now.out, 609);
        long sum = now.out;
        for (int k = 0; k < N; k++) {
            sum += now.in[k] + now.line[k];
        }
        due(c, name, x, sum == now.came ? 1 : 0, 610);
        for (int q = 0; q < 6; q++) {
            int a = cellNumber(r);
            int b = cellNumber(r);
            int j = find(a, b);
            due(c, name, x, j < 0 ? -1 : now.moved[j], 612, a, b);
            due(c, name, x, j < 0 ? -1 : now.rest[j], 613, a, b, 0);
            due(c, name, x, j < 0 ? -1 : joins.get(j).below, 613, a, b, 1);
            int t = now.step + 1 - r.nextInt(20);
            boolean done = t >= 1 && t <= now.step;
            long full = 0;
            for (int k = 0; k < N && done; k++) {
                full += cell[k][0] - lane[k] - now.was.get(t - 1)[k] <= 0 ? 1 : 0;
            }
            due(c, name, x, done ? full : -1, 623, t);
            due(c, name, x, done && is(a) ? now.left.get(t - 1)[a] * ((t - 1) % 60 < 20 ? 10 : 4) : -1, 624, a, t);
        }
        int k = 0;
        for (int[] v : reads) {
            if (v[1] > now.step || v[1] == 0 && now.step > 0) {
                continue;
            }
            int is = (int) (v[1] == 0 ? now.in[v[0]] : now.was.get(v[1] - 1)[v[0]]);
            if (is != v[2]) {
                due(c, name, x, v[0], 618, k, 0);
                due(c, name, x, v[1], 618, k, 1);
                due(c, name, x, is - v[2], 618, k, 2);
                k++;
            }
        }
        due(c, name, x, -1, 618, k, 0);
        int acts = Math.min(300, now.acted.size());
        due(c, name, x, -1, 620, acts);
        due(c, name, x, -1, 620, -1);
        for (int q = 0; q < 3 && acts > 0; q++) {
            int at = r.nextInt(acts);
            due(c, name, x, now.acted.get(at), 620, at);
        }
    }

    public static void main(String[] args) {
        Check c = new Check("CarsOracleTest");
        int runs = args.length > 0 ? Integer.parseInt(args[0]) : 100;
        for (int run = 0; run < runs; run++) {
            Random r = new Random(run);
            CarsOracleTest o = new CarsOracleTest();
            RoadHouse x = new RoadHouse();
            String name = "run " + run;
            for (int k = 0; k < 7; k++) {
                o.cell[k] = new int[] {500 + r.nextInt(1000), 100 + r.nextInt(400), 20 + r.nextInt(80)};
                due(c, name, x, 1, 600, k, o.cell[k][0], o.cell[k][1], o.cell[k][2]);
            }
            for (int k = 0; k < 200; k++) {
                if (r.nextInt(4) > 0) {
                    o.set(c, x, name + " " + k, r);
                    continue;
                }
                int steps = r.nextInt(30) == 0 ? 202 - r.nextInt(5) : r.nextInt(6) - (r.nextInt(10) == 0 ? 5 : 0);
                boolean can = steps >= 0 && steps <= 200;
                for (int q = 0; q < steps && can; q++) {
                    o.step();
                }
                due(c, name, x, can ? o.now.step : -1, 607, steps);
                o.compare(c, x, name + " " + k, r);
            }
        }
        c.end();
    }
}
