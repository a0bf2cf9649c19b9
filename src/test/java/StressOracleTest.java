import java.math.BigInteger;
import java.util.ArrayList;
import java.util.Arrays;
import java.util.List;
import java.util.Random;

/** Part STRESS and the promises 3 to 5 against a plain program with fractions of any size. */
public final class StressOracleTest {
    List<Integer> row = new ArrayList<>();
    List<Integer> points = new ArrayList<>();
    List<long[]> turns = new ArrayList<>();
    List<List<int[]>> lines = new ArrayList<>();
    int[] cutOff = new int[8];
    int hotUp = 1;
    int hotLow = 1;
    int repeats = 1;
    int[] cents = new int[2];
    List<long[]> history = new ArrayList<>();
    double crackFrom;
    int crackSteps;

    void feed(int v) {
        row.add(v);
        int n = points.size();
        if (n > 0 && points.get(n - 1) == v) {
            return;
        }
        if (n > 1 && Integer.signum(points.get(n - 1) - points.get(n - 2)) == Integer.signum(v - points.get(n - 1))) {
            points.set(n - 1, v);
        } else {
            points.add(v);
        }
        while (points.size() >= 4) {
            n = points.size();
            int a = points.get(n - 4);
            int b = points.get(n - 3);
            int c = points.get(n - 2);
            int d = points.get(n - 1);
            int middle = Math.abs(c - b);
            if (middle > Math.abs(b - a) || middle > Math.abs(d - c)) {
                break;
            }
            turns.add(new long[] {middle, Math.min(b, c), Math.max(b, c), c > b ? 1 : 0, row.size()});
            points.remove(n - 2);
            points.remove(n - 3);
        }
    }

    /** Cycles that a class bears of a range, 0 for without end. */
    long cycles(int cls, long range) {
        long hot = range * hotUp / hotLow;
        List<int[]> l = lines.get(cls);
        if (l.isEmpty() || hot <= cutOff[cls] || hot < l.get(l.size() - 1)[0]) {
            return 0;
        }
        if (hot > l.get(0)[0]) {
            return l.get(0)[1];
        }
        long found = 0;
        for (int[] line : l) {
            found = line[0] >= hot ? line[1] : found;
        }
        return found;
    }

    Frac share(int cls) {
        Frac sum = Frac.ZERO;
        for (long[] t : turns) {
            long n = cycles(cls, t[0]);
            sum = n == 0 ? sum : sum.plus(Frac.of(1, n));
        }
        for (int k = 0; k + 1 < points.size(); k++) {
            long n = cycles(cls, Math.abs(points.get(k) - points.get(k + 1)));
            sum = n == 0 ? sum : sum.plus(Frac.of(1, 2 * n));
        }
        return sum;
    }

    Frac shares(int count) {
        Frac sum = Frac.ZERO;
        for (int k = 0; k < count; k++) {
            sum = sum.plus(share(k));
        }
        return sum;
    }

    static long limb(Frac f, int part) {
        BigInteger b = part < 12 ? f.up : f.low;
        return b.shiftRight(32 * (part % 12)).and(BigInteger.valueOf(0xFFFFFFFFL)).longValue();
    }

    double rate() {
        double sum = 0.0;
        for (long[] t : turns) {
            sum += t[0] / 1000000.0 * (t[0] / 1000000.0);
        }
        for (int k = 0; k + 1 < points.size(); k++) {
            double r = Math.abs(points.get(k) - points.get(k + 1)) / 1000000.0;
            sum += 0.5 * (r * r);
        }
        return sum;
    }

    /** Tries all plans of inspections. */
    long inspect(int n) {
        long best = -1;
        long bestCost = 0;
        for (long plan = 0; plan < 1L << n; plan += 2) {
            long cost = 0;
            int last = 0;
            for (int y = 1; y <= n; y++) {
                if (y == n || (plan >> y & 1) == 1) {
                    cost += (long) (y - last) * (y - last) * cents[1] + (y < n ? cents[0] : 0);
                    last = y;
                }
            }
            boolean better = best < 0 || cost < bestCost;
            if (!better && cost == bestCost) {
                int a = Long.bitCount(plan);
                int b = Long.bitCount(best);
                better = a < b || a == b && (plan & Long.lowestOneBit(plan ^ best)) != 0;
            }
            if (better) {
                best = plan;
                bestCost = cost;
            }
        }
        return best;
    }

    static void due(Check c, String name, RoadHouse x, long want, int... call) {
        int[] a = Arrays.copyOf(call, 6);
        c.due(name + " " + Arrays.toString(call), x.act(a[0], a[1], a[2], a[3], a[4], a[5]), want);
    }

    void set(Check c, RoadHouse x, String name, Random r, int size) {
        int cls = r.nextInt(9);
        switch (r.nextInt(12)) {
            case 0: {
                List<int[]> l = cls < 8 ? lines.get(cls) : null;
                int width = l == null || l.isEmpty() ? size : l.get(l.size() - 1)[0] - r.nextInt(size / 3 + 1);
                int count = l == null || l.isEmpty() ? r.nextInt(500) : l.get(l.size() - 1)[1] + r.nextInt(200000);
                boolean can = l != null && l.size() < 4 && width >= 1 && width <= 2000000 && count >= 1 && count <= 1000000
                    && (l.isEmpty() || width < l.get(l.size() - 1)[0] && count > l.get(l.size() - 1)[1]);
                due(c, name, x, can ? 1 : 0, 406, cls, width, count);
                if (can) {
                    l.add(new int[] {width, count});
                }
                break;
            }
            case 1: {
                int v = r.nextInt(5) == 0 ? 2000001 : r.nextInt(size / 3 + 1) - 1;
                boolean can = cls < 8 && v >= 0 && v <= 2000000;
                due(c, name, x, can ? 1 : 0, 407, cls, v);
                if (can) {
                    cutOff[cls] = v;
                }
                break;
            }
            case 2: {
                int low = 1 + r.nextInt(10);
                int up = low + r.nextInt(8) - 2;
                boolean can = up >= low;
                due(c, name, x, can ? 1 : 0, 408, up, low);
                if (can) {
                    hotUp = up;
                    hotLow = low;
                }
                break;
            }
            case 3: {
                int n = r.nextInt(4) == 0 ? 1000000 + r.nextInt(2) : r.nextInt(100);
                boolean can = n >= 1 && n <= 1000000;
                due(c, name, x, can ? 1 : 0, 411, n);
                repeats = can ? n : repeats;
                break;
            }
            case 4: {
                int kind = r.nextInt(3);
                int v = r.nextInt(30) - 2;
                boolean can = kind < 2 && v >= 0;
                due(c, name, x, can ? 1 : 0, 416, kind, v);
                if (can) {
                    cents[kind] = v;
                }
                break;
            }
            case 5: {
                if (r.nextInt(6) > 0) {
                    break;
                }
                int last = history.isEmpty() ? 0 : (int) history.get(history.size() - 1)[0];
                int year = last + r.nextInt(5) - 1;
                boolean can = year >= last && year <= 10000 && history.size() < 20;
                due(c, name, x, can ? 1 : 0, 418, year);
                if (can) {
                    long most = 0;
                    for (long[] t : turns) {
                        most = Math.max(most, t[0]);
                    }
                    history.add(new long[] {year, turns.size(), points.size(), most});
                    row.clear();
                    points.clear();
                    turns.clear();
                }
                break;
            }
            default: {
                for (int k = r.nextInt(8); k >= 0; k--) {
                    int v = r.nextInt(40) == 0 ? (r.nextInt(2) * 2 - 1) * (1000000 + r.nextInt(2)) : r.nextInt(2 * size + 1) - size;
                    boolean can = Math.abs(v) <= 1000000 && row.size() < 300;
                    due(c, name, x, can ? 1 : 0, 400, v);
                    if (can) {
                        feed(v);
                    }
                }
            }
        }
    }

    void compare(Check c, RoadHouse x, String name, Random r) {
        due(c, name, x, turns.size(), 401);
        due(c, name, x, points.size(), 404);
        for (int k = -1; k <= points.size(); k++) {
            due(c, name, x, k >= 0 && k < points.size() ? points.get(k) : -2, 403, k);
        }
        for (int k = -1; k <= turns.size(); k++) {
            for (int what = -1; what < 6; what++) {
                due(c, name, x, k >= 0 && k < turns.size() && what >= 0 && what < 5 ? turns.get(k)[what] : -1, 402, k, what);
            }
        }
        due(c, name, x, 1, 405);
        for (int cls = -1; cls < 9; cls++) {
            boolean is = cls >= 0 && cls < 8;
            for (int part = -1; part < 25; part++) {
                boolean in = part >= 0 && part < 24;
                due(c, name, x, is && in ? limb(share(cls), part) : -1, 409, cls, part);
                due(c, name, x, cls >= 1 && cls <= 4 && in ? limb(shares(cls), part) : -1, 410, cls, part);
                due(c, name, x, in ? limb(shares(4).times(repeats), part) : -1, 412, part);
            }
            int per = r.nextInt(4) == 0 ? 1000000000 : 1 + r.nextInt(100);
            long years = -1;
            if (is) {
                Frac f = share(cls).times(per);
                years = f.sign() == 0 ? 100000 : Math.min(100000, f.low.subtract(BigInteger.ONE).divide(f.up).longValue());
            }
            due(c, name, x, years, 413, cls, per);
            join(c, x, name, r, cls);
        }
        due(c, name, x, row.isEmpty() ? -2 : row.stream().min(Integer::compare).get(), 414, 0);
        due(c, name, x, row.isEmpty() ? -2 : row.stream().max(Integer::compare).get(), 414, 1);
        due(c, name, x, -2, 414, 2);
        int n = r.nextInt(100) - 1;
        long halves = turns.stream().filter(t -> t[0] >= n).count() * 2;
        for (int k = 0; k + 1 < points.size(); k++) {
            halves += Math.abs(points.get(k) - points.get(k + 1)) >= n ? 1 : 0;
        }
        due(c, name, x, n < 0 ? -1 : halves / 2, 415, n);
        int years = r.nextInt(14);
        due(c, name, x, years == 0 ? -1 : inspect(years), 417, years);
        for (int k = 0; k <= history.size(); k++) {
            for (int what = -1; what < 5; what++) {
                due(c, name, x, k < history.size() && what >= 0 && what < 4 ? history.get(k)[what] : -1, 419, k, what);
            }
        }
        crack(c, x, name, r);
    }

    void join(Check c, RoadHouse x, String name, Random r, int cls) {
        List<int[]> l = cls >= 0 && cls < 8 ? lines.get(cls) : new ArrayList<>();
        double[] tries = {Double.NaN, Double.POSITIVE_INFINITY, Double.NEGATIVE_INFINITY, 0.0, r.nextDouble() * 100, r.nextInt(100),
            l.isEmpty() ? 1.0 : l.get(r.nextInt(l.size()))[0], l.isEmpty() ? 1.0 : l.get(0)[0] * r.nextDouble()};
        for (double v : tries) {
            double want = -1;
            for (int k = 0; k < l.size(); k++) {
                double range = l.get(k)[0];
                if (k == 0 && v >= range || v == range) {
                    want = l.get(k)[1];
                } else if (k > 0 && v > range && v < l.get(k - 1)[0]) {
                    double up = l.get(k - 1)[0];
                    double more = (double) (l.get(k)[1] - l.get(k - 1)[1]) * (up - v) / (up - range);
                    want = l.get(k - 1)[1] + more;
                }
            }
            c.due(name + " logJoin " + cls + " " + v, x.logJoin(cls, v), want);
        }
    }

    void crack(Check c, RoadHouse x, String name, Random r) {
        double from = r.nextInt(5) == 0 ? new double[] {0, -1, Double.NaN, 1e6, Double.POSITIVE_INFINITY}[r.nextInt(5)] : r.nextDouble() * 10;
        double to = r.nextInt(5) == 0 ? new double[] {from, 1e6, Double.NaN, 999999.5, 0}[r.nextInt(5)] : from * (1 + r.nextDouble() * 20);
        int steps = r.nextInt(5) == 0 ? r.nextInt(2) * 101 : 1 + r.nextInt(100);
        boolean can = 0 < from && from < to && to < 1000000 && steps >= 1 && steps <= 100;
        int want = -1;
        if (can) {
            crackFrom = from;
            crackSteps = steps;
            for (int year = 1; year <= 100 && want < 0; year++) {
                want = size(year) >= to ? year : -1;
            }
        }
        c.due(name + " crack " + from + " " + to + " " + steps, x.crack(from, to, steps), want);
        for (int year : new int[] {-1, 0, 1, r.nextInt(101), 100, 101}) {
            c.due(name + " crackAt " + year, x.crackAt(year), crackSteps == 0 || year < 0 || year > 100 ? -1 : size(year));
        }
    }

    double size(int years) {
        double size = crackFrom;
        double rate = rate();
        for (int year = 0; year < years; year++) {
            for (int k = 0; k < crackSteps; k++) {
                size = size + size * (rate / crackSteps);
            }
        }
        return size;
    }

    public static void main(String[] args) {
        Check c = new Check("StressOracleTest");
        int runs = args.length > 0 ? Integer.parseInt(args[0]) : 60;
        for (int run = 0; run < runs; run++) {
            Random r = new Random(run);
            StressOracleTest o = new StressOracleTest();
            for (int k = 0; k < 8; k++) {
                o.lines.add(new ArrayList<>());
            }
            RoadHouse x = new RoadHouse();
            int size = run % 3 == 0 ? 1000000 : run % 3 == 1 ? 50 : 5;
            for (int k = 0; k < 160; k++) {
                o.set(c, x, "run " + run + " " + k, r, size);
                if (k % 32 == 31) {
                    o.compare(c, x, "run " + run + " " + k, r);
                }
            }
        }
        c.end();
    }
}
