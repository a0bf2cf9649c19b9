import java.util.Arrays;
import java.util.Random;

/**
 * Promises 6 to 12: each call that brings one part's telling to another one is done on one house; on a twin its single
 * calls are done by act() alone, and both have to tell the same.
 */
public final class BridgesTest {
    static final int[] LENGTH = {10, 22, 14, 22};

    final RoadHouse x = new RoadHouse();
    final RoadHouse twin = new RoadHouse();
    final int[] level = new int[144];
    final boolean[] barred = new boolean[144];
    final boolean[] bridge = new boolean[144];
    final int[] weeks = new int[8];
    final boolean[] toldGreen = {true, true, true, true, true, true};
    int good;
    int[] lengths = {1};

    long both(Check c, int... call) {
        int[] a = Arrays.copyOf(call, 6);
        long v = twin.act(a[0], a[1], a[2], a[3], a[4], a[5]);
        c.due(Arrays.toString(call), x.act(a[0], a[1], a[2], a[3], a[4], a[5]), v);
        if (v == 1 && call[0] == 0) {
            level[12 * a[2] + a[1]] = a[4];
        }
        if (v == 1 && call[0] == 1) {
            barred[12 * a[2] + a[1]] = true;
        }
        if (v == 1 && call[0] == 12) {
            bridge[12 * a[2] + a[1]] = true;
        }
        if (v >= 0 && call[0] == 101) {
            weeks[(int) v] = a[2];
        }
        return v;
    }

    long t(int... call) {
        int[] a = Arrays.copyOf(call, 6);
        return twin.act(a[0], a[1], a[2], a[3], a[4], a[5]);
    }

    int places() {
        int k = 0;
        while (t(6, k, 0) >= 0) {
            k++;
        }
        return k;
    }

    int cell(int k) {
        return (int) (12 * t(6, k, 1) + t(6, k, 0));
    }

    int length(int k) {
        return LENGTH[(int) t(6, k, 2) % 4];
    }

    int earth(int kind, int week) {
        int n = places();
        if (n == 0 || kind < 0 || kind > 3 || week < 0 || week > 11) {
            return -1;
        }
        good++;
        int total = 0;
        for (int k = 1; k < n; k++) {
            total += length(k);
        }
        int metre = 0;
        int came = 0;
        int first = level[cell(0)];
        int last = level[cell(n - 1)];
        for (int k = 0; k < n; k++) {
            metre += k == 0 ? 0 : length(k);
            int at = cell(k);
            if (barred[at] && bridge[at]) {
                continue;
            }
            int line = (int) Math.floor((double) (first * (long) (total - metre) + (long) last * metre) / total + 1e-9);
            long got = -1;
            if (level[at] > line) {
                got = t(100, 10 * (level[at] - line), kind, week, metre);
            } else if (level[at] < line) {
                got = t(101, 10 * (line - level[at]), Math.min(week + 1, 11), metre);
                if (got >= 0) {
                    weeks[(int) got] = Math.min(week + 1, 11);
                }
            }
            came += got >= 0 ? 1 : 0;
        }
        return came;
    }

    int bridge(int number, int stiff) {
        int n = places();
        if (n == 0 || stiff < 1 || stiff > 12) {
            return -1;
        }
        int seen = 0;
        for (int k = 1; k < n; k++) {
            boolean is = barred[cell(k)] && bridge[cell(k)];
            boolean was = barred[cell(k - 1)] && bridge[cell(k - 1)];
            if (!is || was) {
                continue;
            }
            if (seen++ != number) {
                continue;
            }
            StringBuilder text = new StringBuilder("S");
            int moves = 0;
            int p = k;
            boolean on = true;
            while (on) {
                if (p == n) {
                    return -1;
                }
                text.append(length(p) / 2).append('x').append(stiff).append('S');
                moves++;
                on = barred[cell(p)] && bridge[cell(p)];
                p++;
            }
            if (moves > 3) {
                return -1;
            }
            good++;
            lengths = new int[moves];
            for (int q = 0; q < moves; q++) {
                lengths[q] = length(k + q) / 2;
            }
            t(201);
            for (char u : text.toString().toCharArray()) {
                t(200, u);
            }
            return (int) t(201);
        }
        return -1;
    }

    int rowOf(int row) {
        int n = (int) t(214, 0);
        long[] values = new long[4 * n + 1];
        for (int q = 0; q <= 4 * n; q++) {
            int member = Math.min(q / 4, n - 1);
            long[] part = new long[5];
            for (int k = -1; k < 4; k++) {
                part[k + 1] = t(208, row, member, q - 4 * member, k);
            }
            if (part[0] == -2 || part[3] != 0 || part[4] != 0 || part[1] >= 1000000000000000L || part[2] >= 1000000000000000L) {
                return -1;
            }
            values[q] = part[0] * (part[1] * 1000 / part[2]);
            if (Math.abs(values[q]) > 1000000) {
                return -1;
            }
        }
        good++;
        t(322);
        int place = 0;
        for (int q = 0; q <= 4 * n; q++) {
            t(300, place, (int) values[q], 1000);
            place += q < 4 * n ? lengths[q / 4] : 0;
        }
        return 4 * n + 1;
    }

    int pass(int train) {
        if (t(319, train) < 0) {
            return -1;
        }
        good++;
        int came = 0;
        for (int k = 0; t(318, train, k, -1) != -2; k++) {
            if (t(318, train, k, 2) != 0 || t(318, train, k, 3) != 0) {
                continue;
            }
            long v = t(318, train, k, -1) * (t(318, train, k, 0) / t(318, train, k, 1));
            if (Math.abs(v) <= 1000000) {
                came += t(400, (int) v);
            }
        }
        t(400, 0);
        return came;
    }

    int drive(int seconds) {
        if (t(506) == 0 || seconds < 1 || seconds > 100) {
            return -1;
        }
        good++;
        int done = 0;
        while (done < seconds && t(607, 0) < 200) {
            if (t(509) != 0) {
                break;
            }
            for (int g = 0; t(511, g) >= 0; g++) {
                boolean shown = t(511, g) == 1;
                if (shown != toldGreen[g] && t(606, g, (int) t(607, 0) + 1, shown ? 1 : 0) == 1) {
                    toldGreen[g] = shown;
                }
            }
            t(607, 1);
            done++;
        }
        return done;
    }

    int bill(int item) {
        if (t(116) < 0 || t(705, item, 0, 0) == -1 && t(705, item, 0, 1) == -1) {
            return -1;
        }
        good++;
        int came = 0;
        for (int s = 0; t(109, s, 0, 0) >= 0; s++) {
            for (int f = 0; t(109, s, f, 0) >= 0; f++) {
                long v = t(109, s, f, 0);
                if (v > 0 && v < 10000000) {
                    long shape = t(703, 0, (int) (v / 1000), (int) (v % 1000), (int) Math.min(9999, t(109, s, f, 1) / v));
                    came += shape >= 0 && t(704, (int) shape, item, weeks[f]) == 1 ? 1 : 0;
                }
            }
        }
        return came;
    }

    void whole(Check c) {
        c.due("whole 0", x.whole(0), good);
        long[] want = {0, t(17), t(116) < 0 ? -1 : t(116) == 0 ? 1 : 0, t(211), t(321), t(405), t(517), t(610), 1};
        for (int k = 1; k < want.length; k++) {
            c.due("whole " + k, x.whole(k), want[k]);
        }
        c.due("whole 9", x.whole(9), -1);
        c.due("whole -1", x.whole(-1), -1);
    }

    void same(Check c) {
        int[][] probes = {{214, 0}, {214, 1}, {214, 4}, {205}, {320}, {401}, {404}, {414, 0}, {414, 1}, {609}, {607, 0}, {610}, {110, 0},
            {110, 1}, {117, 0, 0}, {513}, {518, 0}, {720, 0}};
        for (int[] p : probes) {
            both(c, p);
        }
        for (int k = 0; k < 9; k++) {
            both(c, 115, 30 * k, 0);
            both(c, 115, 30 * k, 1);
            both(c, 310, k, 0);
            both(c, 310, k, 1);
            both(c, 403, k);
            both(c, 510, k);
            both(c, 608, k);
            both(c, 611, k);
            both(c, 705, 0, k, 0);
            both(c, 705, 0, k, 1);
        }
        for (int k = 0; k < 40; k++) {
            both(c, 723, k);
        }
        for (int part = 0; part < 2; part++) {
            both(c, 309, 7, part);
        }
    }

    void text(Check c, int unit, String s) {
        for (char u : s.toCharArray()) {
            both(c, unit, u);
        }
        both(c, unit + 1);
    }

    void build(Check c, Random r) {
        int bar = r.nextInt(4);
        int river = r.nextInt(4);
        for (int k = 0; k < 144; k++) {
            if (river > 0 && k % 12 > 3 && k % 12 <= 3 + river) {
                both(c, 1, k % 12, k / 12);
                both(c, 12, k % 12, k / 12, 3, r.nextInt(4));
            }
            both(c, 0, k % 12, k / 12, r.nextInt(9), r.nextInt(60));
            if (k % 12 > 0 && k % 12 < 7 && r.nextInt(10) < bar) {
                both(c, 1, k % 12, k / 12);
                if (r.nextInt(3) > 0) {
                    both(c, 12, k % 12, k / 12, 1 + r.nextInt(3), r.nextInt(4));
                }
            }
        }
        both(c, 2, 1 + r.nextInt(2), 9999, 8);
        text(c, 700, "earth=1000*a+b;cents=(1000*a+b)*c/100~10");
        both(c, 702, 0, 12);
        both(c, 702, 1, 7);
        both(c, 500, 3);
        both(c, 501, 0, 1, 2);
        both(c, 501, 1, 2, 1);
        text(c, 504, r.nextBoolean() ? "A2-5;BC3-6" : r.nextBoolean() ? "A2-5;B1-4;C2-9" : "AC1-2;B1-9");
        for (int k = 0; k < 6; k++) {
            both(c, 600, k, 400 + r.nextInt(500), 100 + r.nextInt(300), 50 + r.nextInt(51));
            both(c, 601, k, k + 1);
            both(c, 604, k, r.nextInt(400));
        }
        both(c, 301);
        both(c, 302, 0, 0, r.nextInt(100));
        both(c, 302, 0, 5, r.nextInt(r.nextBoolean() ? 1000000 : 100));
        both(c, 301);
    }

    public static void main(String[] args) {
        Check c = new Check("BridgesTest");
        int runs = args.length > 0 ? Integer.parseInt(args[0]) : 120;
        int[][] told = new int[6][2];
        for (int run = 0; run < runs; run++) {
            Random r = new Random(run);
            BridgesTest o = new BridgesTest();
            o.build(c, r);
            for (int k = 0; k < 25; k++) {
                int a = r.nextInt(5) - 1;
                int b = r.nextInt(14) - 1;
                int want;
                int which = r.nextInt(8);
                switch (which) {
                    case 0:
                        want = o.earth(a, b);
                        c.due("earth", o.x.earth(a, b), want);
                        break;
                    case 1:
                        want = o.bridge(a, b);
                        c.due("bridge " + a + " " + b, o.x.bridge(a, b), want);
                        o.both(c, 207, r.nextInt(4), r.nextInt(2), r.nextInt(5));
                        o.both(c, 207, 3, 1, 0);
                        break;
                    case 2:
                        if (r.nextInt(3) == 0) {
                            o.beams(c, r);
                        }
                        want = o.rowOf(a);
                        c.due("rowOf " + a, o.x.rowOf(a), want);
                        o.both(c, 304, 0, 1);
                        break;
                    case 3:
                        want = o.pass(a);
                        c.due("pass " + a, o.x.pass(a), want);
                        break;
                    case 4: {
                        int seconds = r.nextInt(20) == 0 ? 100 + r.nextInt(2) : r.nextInt(20) - 1;
                        want = o.drive(seconds);
                        c.due("drive " + seconds, o.x.drive(seconds), want);
                        break;
                    }
                    case 5:
                        want = o.bill(a);
                        c.due("bill " + a, o.x.bill(a), want);
                        break;
                    case 6:
                        o.both(c, 5, 0, r.nextInt(12), 8 + r.nextInt(4), r.nextInt(12), 100000);
                        o.both(c, 106, r.nextInt(200), r.nextInt(200));
                        o.both(c, 108, 96);
                        o.both(c, 507, r.nextInt(3), (int) o.t(510, 0) + 1 + r.nextInt(4));
                        o.both(c, 606, r.nextInt(5), (int) o.t(607, 0) + 1 + r.nextInt(3), r.nextInt(2));
                        o.both(c, 605, 0, (int) o.t(607, 0) + 1 + r.nextInt(9), r.nextInt(300));
                        continue;
                    default:
                        o.both(c, 1, r.nextInt(12), r.nextInt(12));
                        o.both(c, 12, r.nextInt(12), r.nextInt(12), 2, 1);
                        o.both(c, 200, 'S');
                        o.both(c, 203, r.nextInt(2), r.nextInt(2), r.nextInt(2));
                        o.both(c, 512, r.nextInt(402));
                        continue;
                }
                told[which][want < 0 ? 1 : 0]++;
                o.whole(c);
                o.same(c);
            }
        }
        System.out.println("BridgesTest: told and refused by each " + Arrays.deepToString(told));
        c.end();
    }

    void beams(Check c, Random r) {
        if (r.nextInt(5) == 0) {
            // fractions with sixteen digits
            lengths = new int[] {12, 12, 11};
            both(c, 201);
            text(c, 200, "F12x7.12x11.11x9F");
            both(c, 207, 2, 2, 3);
            both(c, 207, 2, 2, r.nextInt(5));
            both(c, 207, r.nextInt(3), r.nextInt(3), r.nextInt(5));
            return;
        }
        lengths = new int[1 + r.nextInt(3)];
        StringBuilder text = new StringBuilder("S");
        for (int k = 0; k < lengths.length; k++) {
            lengths[k] = 1 + r.nextInt(12);
            text.append(lengths[k]).append('x').append(1 + r.nextInt(12)).append(r.nextInt(4) == 0 ? '.' : 'S');
        }
        both(c, 201);
        text(c, 200, text.toString());
        for (int k = 0; k < 4; k++) {
            both(c, 207, r.nextInt(4), r.nextInt(3), r.nextInt(5));
        }
    }
}
