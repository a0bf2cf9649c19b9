import java.util.Random;

/** Part BEAMS against a program that sets up all that the document says of shapes and solves that as it stands. */
public final class BeamsOracleTest {
    static final class Model {
        int m;
        int[] len = new int[3];
        int[] stiff = new int[3];
        boolean[][] hinge = new boolean[3][2];
        boolean[][] held = new boolean[4][2];
        int[] settled = new int[4];

        Model copy() {
            Model o = new Model();
            o.m = m;
            o.len = len.clone();
            o.stiff = stiff.clone();
            for (int k = 0; k < 3; k++) {
                o.hinge[k] = hinge[k].clone();
            }
            for (int k = 0; k < 4; k++) {
                o.held[k] = held[k].clone();
            }
            o.settled = settled.clone();
            return o;
        }

        String text() {
            StringBuilder s = new StringBuilder();
            for (int k = 0; k <= m; k++) {
                s.append(held[k][0] ? held[k][1] ? 'F' : 'S' : held[k][1] ? 'T' : '.');
                if (k < m) {
                    s.append(hinge[k][0] ? "h" : "").append(len[k]).append('x').append(stiff[k]).append(hinge[k][1] ? "h" : "");
                }
            }
            return s.toString();
        }

        int vars() {
            return 4 * m + 2 * (m + 1);
        }

        boolean stiffEnd(int node) {
            return node < m && !hinge[node][0] || node > 0 && !hinge[node - 1][1];
        }

        // coefficient rows: w, w', M, V at x = len * q / 4 of beam k, last entry the constant, for a load at (lk, lp)
        Frac[] shape(int what, int k, int q, int lk, int lp) {
            int n = vars();
            Frac[] r = new Frac[n + 1];
            java.util.Arrays.fill(r, Frac.ZERO);
            Frac x = Frac.of(len[k] * q, 4);
            Frac e = Frac.of(stiff[k]);
            boolean in = lk == k && lp > 0 && lp < 4;
            Frac d = in && q > lp ? Frac.of(len[k] * (q - lp), 4) : Frac.ZERO;
            int b = 4 * k;
            if (what == 3) { // V
                r[b + 3] = Frac.ONE;
                r[n] = d.sign() > 0 ? Frac.of(-1) : Frac.ZERO;
            } else if (what == 2) {
                r[b + 2] = Frac.ONE;
                r[b + 3] = x;
                r[n] = d.negated();
            } else if (what == 1) { // w' = t0 - M0 x/E - V0 x^2/2E + d^2/2E
                r[b + 1] = Frac.ONE;
                r[b + 2] = x.negated().by(e);
                r[b + 3] = x.times(x).negated().by(e.times(2));
                r[n] = d.times(d).by(e.times(2));
            } else {
                r[b] = Frac.ONE;
                r[b + 1] = x;
                r[b + 2] = x.times(x).negated().by(e.times(2));
                r[b + 3] = x.times(x).times(x).negated().by(e.times(6));
                r[n] = d.times(d).times(d).by(e.times(6));
            }
            return r;
        }

        Frac[] unit(int var) {
            Frac[] r = new Frac[vars() + 1];
            java.util.Arrays.fill(r, Frac.ZERO);
            r[var] = Frac.ONE;
            return r;
        }

        static Frac[] minus(Frac[] a, Frac[] b) {
            Frac[] r = a.clone();
            for (int i = 0; i < r.length; i++) {
                r[i] = r[i].minus(b[i]);
            }
            return r;
        }

        // all equations "row . vars + const = 0"; lp < 0: no load
        Frac[][] equations(int lk, int lp, Frac factor) {
            java.util.List<Frac[]> eq = new java.util.ArrayList<>();
            int nodeLoad = lp == 0 ? lk : lp == 4 ? lk + 1 : -1;
            for (int k = 0; k < m; k++) {
                eq.add(minus(shape(0, k, 0, lk, lp), unit(4 * m + 2 * k)));
                eq.add(minus(shape(0, k, 4, lk, lp), unit(4 * m + 2 * k + 2)));
                eq.add(hinge[k][0] ? shape(2, k, 0, lk, lp) : minus(shape(1, k, 0, lk, lp), unit(4 * m + 2 * k + 1)));
                eq.add(hinge[k][1] ? shape(2, k, 4, lk, lp) : minus(shape(1, k, 4, lk, lp), unit(4 * m + 2 * k + 3)));
            }
            Frac[] zero = new Frac[vars() + 1];
            java.util.Arrays.fill(zero, Frac.ZERO);
            for (int i = 0; i <= m; i++) {
                Frac[] e;
                if (held[i][0]) {
                    e = unit(4 * m + 2 * i);
                    e[vars()] = factor.times(settled[i]).negated();
                } else {
                    e = minus(i < m ? shape(3, i, 0, lk, lp) : zero, i > 0 ? shape(3, i - 1, 4, lk, lp) : zero);
                    if (nodeLoad == i) {
                        e[vars()] = e[vars()].plus(Frac.ONE);
                    }
                }
                eq.add(e);
                if (held[i][1] || !stiffEnd(i)) {
                    eq.add(unit(4 * m + 2 * i + 1));
                } else {
                    Frac[] right = i < m && !hinge[i][0] ? shape(2, i, 0, lk, lp) : zero;
                    Frac[] left = i > 0 && !hinge[i - 1][1] ? shape(2, i - 1, 4, lk, lp) : zero;
                    eq.add(minus(right, left));
                }
            }
            return eq.toArray(new Frac[0][]);
        }

        // reduced rows; pivot[c] the row of a column's pivot or -1
        int[] reduce(Frac[][] a) {
            int n = vars();
            int[] pivot = new int[n];
            java.util.Arrays.fill(pivot, -1);
            int row = 0;
            for (int c = 0; c < n; c++) {
                int p = row;
                while (p < a.length && a[p][c].sign() == 0) {
                    p++;
                }
                if (p == a.length) {
                    continue;
                }
                Frac[] t = a[p];
                a[p] = a[row];
                a[row] = t;
                Frac by = t[c];
                for (int k = 0; k <= n; k++) {
                    t[k] = t[k].by(by);
                }
                for (int r = 0; r < a.length; r++) {
                    if (r != row && a[r][c].sign() != 0) {
                        Frac f = a[r][c];
                        for (int k = 0; k <= n; k++) {
                            if (t[k].sign() != 0) {
                                a[r][k] = a[r][k].minus(f.times(t[k]));
                            }
                        }
                    }
                }
                pivot[c] = row;
                row++;
            }
            return pivot;
        }

        boolean[] loose() {
            Frac[][] a = equations(0, -1, Frac.ZERO);
            int[] pivot = reduce(a);
            boolean[] r = new boolean[m + 1];
            for (int i = 0; i <= m; i++) {
                for (int axis = 0; axis < 2; axis++) {
                    int v = 4 * m + 2 * i + axis;
                    if (pivot[v] < 0) {
                        r[i] = true;
                        continue;
                    }
                    for (int c = 0; c < vars(); c++) {
                        r[i] |= pivot[c] < 0 && a[pivot[v]][c].sign() != 0;
                    }
                }
            }
            return r;
        }

        Frac[] solve(int lk, int lp, Frac factor) {
            Frac[][] a = equations(lk, lp, factor);
            int[] pivot = reduce(a);
            Frac[] x = new Frac[vars()];
            for (int c = 0; c < vars(); c++) {
                x[c] = a[pivot[c]][vars()].negated();
            }
            return x;
        }

        Frac value(Frac[] x, int what, int k, int q, int lk, int lp) {
            if (what == 3) {
                int nodeLoad = lp == 0 ? lk : lp == 4 ? lk + 1 : -1;
                Frac r = k == nodeLoad ? Frac.ONE : Frac.ZERO;
                r = k < m ? r.plus(at(x, 3, k, 0, lk, lp)) : r;
                return k > 0 ? r.minus(at(x, 3, k - 1, 4, lk, lp)) : r;
            }
            return at(x, what == 0 ? 2 : what == 1 ? 3 : 0, k, q, lk, lp);
        }

        Frac at(Frac[] x, int s, int k, int q, int lk, int lp) {
            Frac[] r = shape(s, k, q, lk, lp);
            Frac sum = r[vars()];
            for (int c = 0; c < vars(); c++) {
                sum = sum.plus(r[c].times(x[c]));
            }
            return sum;
        }
    }

    static void parts(Check c, String what, RoadHouse x, int[] call, Frac want) {
        for (int part = -2; part < 6; part++) {
            int[] a = java.util.Arrays.copyOf(call, 6);
            int at = call.length;
            a[at] = part;
            long due = want == null ? part == -1 ? -2 : -1 : part < -1 ? -1 : want.part(part);
            c.due(what + " part " + part, x.act(a[0], a[1], a[2], a[3], a[4], a[5]), due);
        }
    }

    static Model random(Random r) {
        Model o = new Model();
        o.m = 1 + r.nextInt(3);
        int fixed = 2 + r.nextInt(6);
        for (int k = 0; k < o.m; k++) {
            o.len[k] = 1 + r.nextInt(12);
            o.stiff[k] = 1 + r.nextInt(12);
            o.hinge[k][0] = r.nextInt(6) == 0;
            o.hinge[k][1] = r.nextInt(6) == 0;
        }
        for (int k = 0; k <= o.m; k++) {
            o.held[k][0] = r.nextInt(8) < fixed;
            o.held[k][1] = r.nextInt(10) < fixed - 1;
        }
        return o;
    }

    public static void main(String[] args) {
        Check c = new Check("BeamsOracleTest");
        int runs = args.length > 0 ? Integer.parseInt(args[0]) : 120;
        for (int run = 0; run < runs; run++) {
            Random r = new Random(run);
            RoadHouse x = new RoadHouse();
            Model o = random(r);
            c.collect(x, 200, o.text());
            c.due(o.text() + " read", x.act(201, 0, 0, 0, 0, 0), o.m);
            for (int round = 0; round < 3; round++) {
                compare(c, r, x, o, run);
                change(c, r, x, o);
            }
        }
        c.end();
    }

    static void change(Check c, Random r, RoadHouse x, Model o) {
        int k = r.nextInt(o.m);
        int node = r.nextInt(o.m + 1);
        switch (r.nextInt(3)) {
            case 0:
                o.len[k] = 1 + r.nextInt(12);
                o.stiff[k] = 1 + r.nextInt(12);
                c.due("202", x.act(202, k, o.len[k], o.stiff[k], 0, 0), 1);
                break;
            case 1: {
                int axis = r.nextInt(2);
                boolean on = r.nextInt(3) > 0;
                c.due("203", x.act(203, node, axis, on ? 7 : 0, 0, 0), o.held[node][axis] ? 1 : 0);
                o.held[node][axis] = on;
                if (axis == 0 && !on) {
                    o.settled[node] = 0;
                }
                break;
            }
            default: {
                int end = r.nextInt(2);
                boolean on = r.nextInt(3) == 0;
                c.due("204", x.act(204, k, end, on ? -1 : 0, 0, 0), o.hinge[k][end] ? 1 : 0);
                o.hinge[k][end] = on;
            }
        }
    }

    static void compare(Check c, Random r, RoadHouse x, Model o, int run) {
        String name = "run " + run + " " + o.text() + " ";
        boolean[] loose = o.loose();
        int count = 0;
        for (int i = 0; i <= o.m; i++) {
            if (loose[i]) {
                c.due(name + "loose " + count, x.act(206, count, 0, 0, 0, 0), i);
                count++;
            }
        }
        c.due(name + "loose " + count, x.act(206, count, 0, 0, 0, 0), -1);
        c.due(name + "solve", x.act(205, 0, 0, 0, 0, 0), count);
        c.due(name + "sums", x.act(211, 0, 0, 0, 0, 0), count == 0 ? 1 : 0);
        int what = r.nextInt(4);
        int member = r.nextInt(o.m + (what == 3 ? 1 : 0));
        int place = what == 3 ? 0 : r.nextInt(5);
        boolean can = (what < 3 || o.held[member][0]) && x.act(214, 1, 0, 0, 0, 0) < 8;
        long row = x.act(207, what, member, place, 0, 0);
        c.due(name + "row", row, can ? x.act(214, 1, 0, 0, 0, 0) - 1 : -1);
        for (int i = 0; i <= o.m; i++) {
            if (r.nextBoolean()) {
                int v = r.nextInt(2001) - 1000;
                c.due(name + "settle", x.act(212, i, v, 0, 0, 0), o.held[i][0] ? 1 : 0);
                if (o.held[i][0]) {
                    o.settled[i] = v;
                }
            }
        }
        int node = r.nextInt(o.m + 1);
        int above = r.nextInt(2001) - 1000;
        int below = 1 + r.nextInt(1000);
        Frac move = count > 0 ? null : o.solve(0, -1, Frac.of(above, below))[4 * o.m + 2 * node];
        parts(c, name + "move", x, new int[] {213, node, above, below}, move);
        if (row < 0) {
            return;
        }
        Frac[] v = new Frac[4 * o.m + 1];
        Model plain = o.copy();
        plain.settled = new int[4];
        for (int q = 0; q <= 4 * o.m && count == 0; q++) {
            int lk = Math.min(q / 4, o.m - 1);
            int lp = q - 4 * lk;
            v[q] = plain.value(plain.solve(lk, lp, Frac.ZERO), what, member, place, lk, lp);
        }
        for (int q = 0; q <= 4 * o.m; q++) {
            int lk = Math.min(q / 4, o.m - 1);
            int lp = q - 4 * lk;
            parts(c, name + what + " " + member + " " + place + " at " + lk + " " + lp, x, new int[] {208, (int) row, lk, lp}, v[q]);
            if (lp == 4 && lk + 1 < o.m) {
                parts(c, name + "next", x, new int[] {208, (int) row, lk + 1, 0}, v[q]);
            }
        }
        c.due(name + "turned", x.act(210, (int) row, 0, 0, 0, 0), what == 2 && count == 0 ? 1 : 0);
        for (int sign = -1; sign <= 1; sign += 2) {
            Frac sum = count > 0 ? null : Frac.ZERO;
            for (int q = 0; q < 4 * o.m && sum != null; q++) {
                Frac a = v[q].times(sign);
                Frac b = v[q + 1].times(sign);
                Frac l = Frac.of(o.len[q / 4], 4);
                if (a.sign() >= 0 && b.sign() >= 0) {
                    sum = sum.plus(a.plus(b).times(l).by(Frac.of(2)));
                } else if (a.sign() > 0 || b.sign() > 0) {
                    Frac p = a.sign() > 0 ? a : b;
                    Frac n = a.sign() > 0 ? b : a;
                    sum = sum.plus(p.times(p).by(p.minus(n)).times(l).by(Frac.of(2)));
                }
            }
            parts(c, name + "area " + sign, x, new int[] {209, (int) row, sign}, sum);
        }
    }
}
