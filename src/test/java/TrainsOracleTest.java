import java.util.ArrayList;
import java.util.List;
import java.util.Random;
import java.util.TreeSet;

/** Part TRAINS against a plain program with fractions of any size. */
public final class TrainsOracleTest {
    final List<int[]> row = new ArrayList<>();
    final List<List<int[]>> trains = new ArrayList<>();
    final int[][] gap = new int[6][2];
    final List<Frac> lanes = new ArrayList<>();
    List<int[]> cases = new ArrayList<>();
    Frac worst;
    int[] place;
    int ranTrain = -1;
    boolean ranBoth;
    long tried;

    Frac rowAt(int p) {
        for (int k = 0; k < row.size(); k++) {
            if (row.get(k)[0] == p) {
                return Frac.of(row.get(k)[1], row.get(k)[2]);
            }
        }
        for (int k = 0; k + 1 < row.size(); k++) {
            int a = row.get(k)[0];
            int b = row.get(k + 1)[0];
            if (a < p && p < b) {
                Frac va = Frac.of(row.get(k)[1], row.get(k)[2]);
                Frac vb = Frac.of(row.get(k + 1)[1], row.get(k + 1)[2]);
                return va.plus(vb.minus(va).times(Frac.of(p - a, b - a)));
            }
        }
        return Frac.ZERO;
    }

    Frac effect(int t, int s, boolean forward) {
        Frac sum = Frac.ZERO;
        int off = 0;
        for (int[] axle : trains.get(t)) {
            off += axle[0];
            sum = sum.plus(rowAt(forward ? s - off : s + off).times(axle[1]));
        }
        return sum;
    }

    TreeSet<Integer> places(int t, boolean forward) {
        TreeSet<Integer> set = new TreeSet<>();
        int off = 0;
        for (int[] axle : trains.get(t)) {
            off += axle[0];
            for (int[] corner : row) {
                set.add(forward ? corner[0] + off : corner[0] - off);
            }
        }
        return set;
    }

    void forget() {
        worst = null;
        place = null;
        ranTrain = -1;
    }

    long run(int t, boolean both) {
        if (t < 0 || t >= trains.size()) {
            return -1;
        }
        forget();
        long n = 0;
        for (int way = 0; way < (both ? 2 : 1); way++) {
            for (int s : places(t, way == 0)) {
                n++;
                Frac e = effect(t, s, way == 0);
                if (worst == null || e.compareTo(worst) > 0) {
                    worst = e;
                    place = new int[] {s, way, t, -1, -1};
                }
            }
        }
        ranTrain = t;
        ranBoth = both;
        tried += n;
        return n;
    }

    long between(int a, int b) {
        if (a < 0 || a >= trains.size() || b < 0 || b >= trains.size() || places(a, true).isEmpty()) {
            return -1;
        }
        forget();
        int len = 0;
        for (int[] axle : trains.get(a)) {
            len += axle[0];
        }
        long n = 0;
        for (int s : places(a, true)) {
            TreeSet<Integer> gaps = new TreeSet<>();
            gaps.add(gap[b][0]);
            gaps.add(gap[b][1]);
            for (int s2 : places(b, true)) {
                int g = s - len - s2;
                if (g >= gap[b][0] && g <= gap[b][1]) {
                    gaps.add(g);
                }
            }
            for (int g : gaps) {
                n++;
                Frac e = effect(a, s, true).plus(effect(b, s - len - g, true));
                if (worst == null || e.compareTo(worst) > 0) {
                    worst = e;
                    place = new int[] {s, 0, a, s - len - g, b};
                }
            }
        }
        tried += n;
        return n;
    }

    Frac area() {
        Frac sum = Frac.ZERO;
        for (int k = 0; k + 1 < row.size(); k++) {
            Frac a = Frac.of(row.get(k)[1], row.get(k)[2]);
            Frac b = Frac.of(row.get(k + 1)[1], row.get(k + 1)[2]);
            Frac g = Frac.of(row.get(k + 1)[0] - row.get(k)[0], 2);
            if (a.sign() >= 0 && b.sign() >= 0) {
                sum = sum.plus(a.plus(b).times(g));
            } else if (a.sign() > 0) {
                sum = sum.plus(a.times(a).by(a.minus(b)).times(g));
            } else if (b.sign() > 0) {
                sum = sum.plus(b.times(b).by(b.minus(a)).times(g));
            }
        }
        return sum;
    }

    // stretches found by sampling: begin, end, first corner
    List<long[]> stretches() {
        List<long[]> list = new ArrayList<>();
        Frac begin = null;
        int corner = -1;
        for (int k = 0; k + 1 < row.size(); k++) {
            Frac a = Frac.of(row.get(k)[1], row.get(k)[2]);
            Frac b = Frac.of(row.get(k + 1)[1], row.get(k + 1)[2]);
            Frac pa = Frac.of(row.get(k)[0]);
            Frac pb = Frac.of(row.get(k + 1)[0]);
            Frac zero = a.sign() * b.sign() < 0 ? pa.plus(pb.minus(pa).times(a.by(a.minus(b)))) : null;
            if (begin == null && (a.sign() > 0 || b.sign() > 0)) {
                begin = a.sign() >= 0 ? pa : zero;
                corner = a.sign() >= 0 ? k : k + 1;
            }
            if (begin != null && b.sign() <= 0) {
                list.add(new long[] {begin.whole().longValue(), (b.sign() == 0 || zero == null ? pb : zero).whole().longValue(), corner});
                begin = null;
            }
        }
        if (begin != null) {
            list.add(new long[] {begin.whole().longValue(), row.get(row.size() - 1)[0], corner});
        }
        return list;
    }

    Frac laneSum(int n) {
        Frac sum = Frac.ZERO;
        for (int k = 0; k < n; k++) {
            sum = sum.plus(lanes.get(k));
        }
        return sum;
    }

    Frac caseValue(int k) {
        Frac w = worst == null ? Frac.ZERO : worst;
        int[] n = cases.get(k);
        return w.times(n[0]).plus(area().times(n[1])).plus(w.times(laneSum(lanes.size())).times(n[2])).by(Frac.of(100));
    }

    static void parts(Check c, String what, RoadHouse x, int[] call, Frac want) {
        for (int part = -1; part < 8; part++) {
            int[] a = java.util.Arrays.copyOf(call, 6);
            a[call.length] = part;
            c.due(what + " part " + part, x.act(a[0], a[1], a[2], a[3], a[4], a[5]), want == null ? part == -1 ? -2 : -1 : want.part(part));
        }
    }

    static int value(Random r, int size) {
        int v = r.nextInt(2 * size + 1) - size;
        return r.nextInt(4) == 0 ? 0 : v;
    }

    void step(Check c, Random r, RoadHouse x, int size) {
        int t = r.nextInt(trains.size() + 1);
        boolean is = t < trains.size();
        switch (r.nextInt(18)) {
            case 0: case 1: case 2: case 3: {
                int at = (row.isEmpty() ? 0 : row.get(row.size() - 1)[0]) + r.nextInt(40) + (r.nextInt(6) == 0 ? 0 : 1);
                int v = value(r, size);
                int low = 1 + r.nextInt(size > 100 ? 1000 : 3);
                boolean can = at <= 400 && row.size() < 14 && (row.isEmpty() || at > row.get(row.size() - 1)[0]);
                c.due("300", x.act(300, at, v, low, 0, 0), can ? 1 : 0);
                if (can) {
                    row.add(new int[] {at, v, low});
                    forget();
                }
                break;
            }
            case 4: {
                c.due("301", x.act(301, 0, 0, 0, 0, 0), trains.size() < 6 ? trains.size() : -1);
                if (trains.size() < 6) {
                    trains.add(new ArrayList<>());
                }
                break;
            }
            case 5: case 6: case 7: {
                int behind = r.nextInt(5) == 0 ? r.nextInt(70) - 3 : is && trains.get(t).isEmpty() ? 0 : 1 + r.nextInt(20);
                int load = r.nextInt(size);
                boolean can = is && trains.get(t).size() < 5 && (trains.get(t).isEmpty() ? behind == 0 : behind >= 1 && behind <= 60);
                c.due("302", x.act(302, t, behind, load, 0, 0), can ? 1 : 0);
                if (can) {
                    trains.get(t).add(new int[] {behind, load});
                    forget();
                }
                break;
            }
            case 8: {
                int least = r.nextInt(50) - 2;
                int most = least + r.nextInt(60) - 2;
                boolean can = is && least >= 0 && most <= 300 && least <= most;
                c.due("303", x.act(303, t, least, most, 0, 0), can ? 1 : 0);
                if (can) {
                    gap[t] = new int[] {least, most};
                }
                break;
            }
            case 9: {
                boolean both = r.nextBoolean();
                c.due("304", x.act(304, t, both ? 5 : 0, 0, 0, 0), run(t, both));
                break;
            }
            case 10: {
                int b = r.nextInt(trains.size() + 1);
                c.due("317", x.act(317, t, b, 0, 0, 0), between(t, b));
                break;
            }
            case 11: {
                int low = r.nextInt(1001);
                int up = r.nextInt(low + 2);
                boolean can = up <= low && low > 0 && lanes.size() < 4;
                c.due("307", x.act(307, up, low, 0, 0, 0), can ? lanes.size() : -1);
                if (can) {
                    lanes.add(Frac.of(up, low));
                }
                break;
            }
            case 12: {
                if (r.nextInt(6) == 0) {
                    c.due("322", x.act(322, 0, 0, 0, 0, 0), 0);
                    row.clear();
                    tried = 0;
                    forget();
                }
                break;
            }
            case 13: text(c, r, x); break;
            default: compare(c, r, x);
        }
    }

    void text(Check c, Random r, RoadHouse x) {
        StringBuilder s = new StringBuilder();
        List<int[]> is = new ArrayList<>();
        int wrong = -1;
        int n = 1 + r.nextInt(9);
        for (int k = 0; k < n && wrong < 0 && s.length() < 80; k++) {
            if (k > 0) {
                if (k == 8) {
                    wrong = s.length();
                }
                s.append(';');
            }
            int[] one = new int[3];
            int terms = 1 + r.nextInt(r.nextInt(5) == 0 ? 7 : 3);
            int sign = 1;
            for (int t = 0; t < terms && s.length() < 85; t++) {
                if (t > 0) {
                    sign = r.nextBoolean() ? 1 : -1;
                    if (t == 6 && wrong < 0) {
                        wrong = s.length();
                    }
                    s.append(sign > 0 ? '+' : '-');
                }
                int v = r.nextInt(r.nextBoolean() ? 10000 : 100);
                String digits = Integer.toString(v);
                while (digits.length() < 4 && r.nextInt(4) == 0) {
                    digits = "0" + digits;
                }
                int what = r.nextInt(3);
                s.append(digits).append("WPL".charAt(what));
                one[what] += sign * v;
            }
            is.add(one);
        }
        String text = s.toString();
        if (wrong < 0 && r.nextInt(3) == 0) {
            wrong = spoil(r, s);
            text = s.toString();
        }
        c.collect(x, 312, text);
        c.due("rules " + text, x.act(313, 0, 0, 0, 0, 0), wrong < 0 ? is.size() : -1 - wrong);
        if (wrong < 0) {
            cases = is;
        }
    }

    static int spoil(Random r, StringBuilder s) {
        int at = r.nextInt(s.length());
        char c = s.charAt(at);
        if (r.nextBoolean()) {
            s.setLength(at);
            boolean endsWhole = at > 0 && "WPL".indexOf(s.charAt(at - 1)) >= 0;
            if (!endsWhole) {
                return at;
            }
            s.append('x');
            return at;
        }
        s.setCharAt(at, c == ' ' ? 'x' : ' ');
        return at;
    }

    void compare(Check c, Random r, RoadHouse x) {
        parts(c, "305", x, new int[] {305}, worst);
        for (int k = -1; k < 6; k++) {
            c.due("306", x.act(306, k, 0, 0, 0, 0), place == null || k < 0 || k > 4 ? -1 : place[k]);
        }
        int n = r.nextInt(lanes.size() + 2);
        parts(c, "308", x, new int[] {308, n}, worst == null || n < 1 || n > lanes.size() ? null : worst.times(laneSum(n)));
        int per = r.nextInt(3) == 0 ? 1000000 : r.nextInt(1000);
        parts(c, "309", x, new int[] {309, per}, area().times(per));
        List<long[]> st = stretches();
        c.due("311", x.act(311, -1 - r.nextInt(3), 0, 0, 0, 0), st.size());
        for (int k = 0; k <= st.size(); k++) {
            for (int end = -1; end < 3; end++) {
                c.due("310 " + k + " " + end, x.act(310, k, end, 0, 0, 0), k < st.size() && end >= 0 && end < 2 ? st.get(k)[end] : -1);
            }
            c.due("311 " + k, x.act(311, k, 0, 0, 0, 0), k < st.size() ? st.get(k)[2] : -1);
        }
        c.due("314", x.act(314, 0, 0, 0, 0, 0), cases.size());
        List<Integer> order = new ArrayList<>();
        for (int k = 0; k < cases.size(); k++) {
            order.add(k);
            parts(c, "315 " + k, x, new int[] {315, k}, caseValue(k));
        }
        order.sort((a, b) -> caseValue(b).compareTo(caseValue(a)));
        for (int k = 0; k <= order.size(); k++) {
            c.due("316 " + k, x.act(316, k, 0, 0, 0, 0), k < order.size() ? order.get(k) : -1);
        }
        int t = r.nextInt(trains.size() + 1);
        if (t < trains.size()) {
            Integer[] list = places(t, true).toArray(new Integer[0]);
            int k = r.nextInt(list.length + 1);
            parts(c, "318", x, new int[] {318, t, k}, k < list.length ? effect(t, list[k], true) : null);
            long sum = 0;
            for (int[] axle : trains.get(t)) {
                sum += axle[1];
            }
            c.due("319", x.act(319, t, 0, 0, 0, 0), sum / 4);
        } else {
            parts(c, "318", x, new int[] {318, t, 0}, null);
            c.due("319", x.act(319, t, 0, 0, 0, 0), -1);
        }
        c.due("320", x.act(320, 0, 0, 0, 0, 0), tried);
        boolean holds = worst != null && ranTrain >= 0;
        if (holds && r.nextInt(3) == 0) {
            for (int way = 0; way < (ranBoth ? 2 : 1); way++) {
                for (int s = way == 0 ? 0 : -300; s <= (way == 0 ? 700 : 400); s++) {
                    Frac e = effect(ranTrain, s, way == 0);
                    holds &= e.sign() == 0 || e.compareTo(worst) <= 0;
                }
            }
            c.due("321", x.act(321, 0, 0, 0, 0, 0), holds ? 1 : 0);
        }
    }

    public static void main(String[] args) {
        Check c = new Check("TrainsOracleTest");
        int runs = args.length > 0 ? Integer.parseInt(args[0]) : 60;
        for (int run = 0; run < runs; run++) {
            Random r = new Random(run);
            TrainsOracleTest o = new TrainsOracleTest();
            RoadHouse x = new RoadHouse();
            for (int k = 0; k < 80; k++) {
                o.step(c, r, x, run % 3 == 0 ? 1000000 : 10);
            }
        }
        c.end();
    }
}
