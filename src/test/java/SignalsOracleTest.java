import java.util.ArrayList;
import java.util.Arrays;
import java.util.HashMap;
import java.util.List;
import java.util.Map;
import java.util.Random;

/** Part SIGNALS against a program that keeps machines as lists of words and walks all events by hand. */
public final class SignalsOracleTest {
    int n = 1;
    int[][] between = new int[6][6];
    boolean[][] clash = new boolean[6][6];
    int[] least = new int[6];
    int[] most = new int[6];
    /** Of each plan its phases: groups, least, most. */
    List<List<Object[]>> plans = new ArrayList<>();
    Map<Integer, Integer> told = new HashMap<>();
    int count;

    final class Machine {
        int plan;
        int phase;
        int t;
        int left;
        int nextPlan;
        int nextPhase;
        int wanted;
        boolean[] waits = new boolean[n];
        int[] age = new int[n];

        Machine first() {
            for (int g = 0; g < n; g++) {
                age[g] = in(0, 0, g) ? 0 : 15;
            }
            return this;
        }

        Machine copy() {
            Machine m = new Machine();
            m.plan = plan;
            m.phase = phase;
            m.t = t;
            m.left = left;
            m.nextPlan = nextPlan;
            m.nextPhase = nextPhase;
            m.wanted = wanted;
            m.waits = waits.clone();
            m.age = age.clone();
            return m;
        }

        boolean shown(int g) {
            return in(plan, phase, g) && (left == 0 || in(nextPlan, nextPhase, g));
        }

        int bits(boolean waiting) {
            int b = 0;
            for (int g = 0; g < n; g++) {
                b |= (waiting ? waits[g] : shown(g)) ? 1 << g : 0;
            }
            return b;
        }

        String words() {
            return plan + " " + phase + " " + t + " " + left + " " + (left > 0 ? nextPlan + " " + nextPhase : "") + " " + wanted + Arrays.toString(waits) + Arrays.toString(age);
        }

        int second(int event) {
            if (event >= 1 && event <= n) {
                if (!shown(event - 1)) {
                    waits[event - 1] = true;
                }
            } else if (event > n && event - 1 - n < plans.size()) {
                wanted = event - 1 - n;
            }
            for (int g = 0; g < n; g++) {
                age[g] = shown(g) ? Math.min(31, age[g] + 1) : Math.min(15, age[g] + 1);
            }
            List<Integer> began = new ArrayList<>();
            boolean three = false;
            if (left > 0) {
                left--;
                if (left == 0) {
                    begin(began);
                }
            } else {
                t = Math.min(31, t + 1);
                List<Object[]> p = plans.get(plan);
                int tl = (Integer) p.get(phase)[1];
                int tm = (Integer) p.get(phase)[2];
                boolean asked = wanted != plan;
                for (int g = 0; g < n; g++) {
                    asked |= waits[g] && !in(plan, phase, g);
                }
                if (t >= tm || t >= tl && asked) {
                    int np = plan;
                    int nq = (phase + 1) % p.size();
                    if (wanted != plan) {
                        np = wanted;
                        nq = 0;
                    } else {
                        search:
                        for (int k = 1; k <= p.size(); k++) {
                            for (int g = 0; g < n; g++) {
                                if (waits[g] && in(plan, (phase + k) % p.size(), g)) {
                                    nq = (phase + k) % p.size();
                                    break search;
                                }
                            }
                        }
                    }
                    if (np != plan || nq != phase) {
                        nextPlan = np;
                        nextPhase = nq;
                        for (int g = 0; g < n; g++) {
                            if (in(plan, phase, g) && !in(np, nq, g)) {
                                three |= age[g] < least[g];
                                age[g] = 0;
                                for (int b = 0; b < n; b++) {
                                    if (clash[g][b] && in(np, nq, b) && !in(plan, phase, b)) {
                                        left = Math.max(left, between[g][b]);
                                    }
                                }
                            }
                        }
                        if (left == 0) {
                            begin(began);
                        }
                    }
                }
            }
            for (int a = 0; a < n; a++) {
                for (int b = 0; b < n; b++) {
                    if (clash[a][b] && shown(a) && shown(b)) {
                        return 1;
                    }
                }
            }
            for (int b : began) {
                for (int a = 0; a < n; a++) {
                    if (clash[a][b] && !shown(a) && age[a] < between[a][b]) {
                        return 2;
                    }
                }
            }
            if (three) {
                return 3;
            }
            for (int a = 0; a < n; a++) {
                for (int b = 0; b < n; b++) {
                    if (shown(a) && age[a] > most[a] && clash[a][b] && waits[b]) {
                        return 4;
                    }
                }
            }
            return 0;
        }

        void begin(List<Integer> began) {
            for (int g = 0; g < n; g++) {
                if (in(nextPlan, nextPhase, g)) {
                    waits[g] = false;
                    if (!in(plan, phase, g)) {
                        age[g] = 0;
                        began.add(g);
                    }
                }
            }
            plan = nextPlan;
            phase = nextPhase;
            t = 0;
        }
    }

    boolean in(int plan, int phase, int g) {
        return ((String) plans.get(plan).get(phase)[0]).indexOf('A' + g) >= 0;
    }

    Machine machine;
    int seconds;
    int proof = -1;
    List<Machine> states = new ArrayList<>();
    Map<String, Integer> numbers = new HashMap<>();
    List<int[]> from = new ArrayList<>();
    List<int[]> next = new ArrayList<>();
    List<long[]> fault = new ArrayList<>();

    void restart() {
        told.clear();
        count = 0;
        seconds = 0;
        machine = plans.isEmpty() ? null : new Machine().first();
        forget();
    }

    void forget() {
        proof = -1;
        states.clear();
        numbers.clear();
        from.clear();
        next.clear();
        fault.clear();
    }

    int prove(int limit) {
        forget();
        if (limit < 1 || limit > 400 || plans.isEmpty()) {
            return -1;
        }
        add(new Machine().first(), -1, 0);
        for (int s = 0; s < states.size(); s++) {
            int[] to = new int[n + 4];
            next.add(to);
            for (int e = 0; e < n + 4; e++) {
                Machine m = states.get(s).copy();
                int f = m.second(e);
                if (f != 0) {
                    row(m, e, f);
                    for (int k = s; k > 0; k = from.get(k)[0]) {
                        row(states.get(k), from.get(k)[1], 0);
                    }
                    java.util.Collections.reverse(fault);
                    return proof = 0;
                }
                if (!numbers.containsKey(m.words())) {
                    if (states.size() == limit) {
                        return proof = 2;
                    }
                    add(m, s, e);
                }
                to[e] = numbers.get(m.words());
            }
        }
        return proof = 1;
    }

    void row(Machine m, int event, int f) {
        fault.add(new long[] {event, m.plan, m.phase, m.bits(false), m.left, m.bits(true), f});
    }

    void add(Machine m, int s, int e) {
        numbers.put(m.words(), states.size());
        states.add(m);
        from.add(new int[] {s, e});
    }

    /** By depth: from each state that waits, the longest way through states that wait. */
    int longest(int g, int s, int[] known, boolean[] on) {
        if (!states.get(s).waits[g]) {
            return 0;
        }
        if (known[s] != 0) {
            return known[s];
        }
        if (on[s]) {
            return -1;
        }
        on[s] = true;
        int most = 0;
        for (int to : next.get(s)) {
            int v = longest(g, to, known, on);
            if (v < 0) {
                most = -2;
            }
            most = most < 0 ? most : Math.max(most, v);
        }
        on[s] = false;
        known[s] = most < 0 ? -1 : most + 1;
        return known[s];
    }

    int longest(int g) {
        int most = 0;
        int[] known = new int[states.size()];
        for (int s = 0; s < states.size(); s++) {
            int v = longest(g, s, known, new boolean[states.size()]);
            if (v < 0) {
                return -1;
            }
            most = Math.max(most, v);
        }
        return most;
    }

    static void due(Check c, String name, RoadHouse x, long want, int... call) {
        int[] a = Arrays.copyOf(call, 6);
        c.due(name + " " + Arrays.toString(call), x.act(a[0], a[1], a[2], a[3], a[4], a[5]), want);
    }

    void compare(Check c, RoadHouse x, String name, Random r) {
        boolean has = !plans.isEmpty();
        due(c, name, x, plans.size(), 506);
        long[] is = new long[9];
        if (has) {
            is = new long[] {seconds, machine.plan, machine.phase, machine.t, machine.left, machine.wanted, machine.bits(true),
                machine.bits(false), numbers.getOrDefault(machine.words(), -1)};
        }
        for (int k = -1; k <= 9 + n; k++) {
            boolean in = has && k >= 0 && k < 9 + n;
            due(c, name, x, in ? k < 9 ? is[k] : machine.age[k - 9] : -1, 510, k);
        }
        for (int g = -1; g <= n; g++) {
            boolean in = has && g >= 0 && g < n;
            due(c, name, x, in ? machine.shown(g) ? 1 : 0 : -1, 511, g);
            due(c, name, x, proof == 1 && g >= 0 && g < n ? longest(g) : -2, 515, g);
        }
        List<Integer> ring = new ArrayList<>();
        for (int g = 0; g < n && proof == 1; g++) {
            if (longest(g) < 0) {
                ring.add(g);
            }
        }
        for (int k = -1; k <= ring.size(); k++) {
            due(c, name, x, k >= 0 && k < ring.size() ? ring.get(k) : -1, 516, k);
        }
        due(c, name, x, proof == 1 && ring.isEmpty() ? 1 : 0, 517);
        c.due(name + " whole", x.whole(6), proof == 1 && ring.isEmpty() ? 1 : 0);
        due(c, name, x, states.size(), 513);
        for (int k = -1; k <= fault.size(); k++) {
            for (int what = -1; what < 8; what++) {
                boolean in = proof == 0 && k >= 0 && k < fault.size() && what >= 0 && what < 7;
                due(c, name, x, in ? fault.get(k)[what] : -1, 514, k, what);
            }
        }
        int more = r.nextInt(5) == 0 ? r.nextInt(103) - 1 : r.nextInt(6);
        boolean same = has && proof >= 0 && more >= 0 && more <= 100;
        if (same) {
            Machine m = machine.copy();
            same = numbers.containsKey(m.words());
            for (int k = 1; k <= more && same; k++) {
                same = m.second(told.getOrDefault(seconds + k, 0)) == 0 && numbers.containsKey(m.words());
            }
        }
        due(c, name, x, same ? 1 : 0, 518, more);
    }

    static String phases(Random r, int n, List<Object[]> into) {
        StringBuilder s = new StringBuilder();
        int count = 1 + r.nextInt(4);
        for (int k = 0; k < count; k++) {
            StringBuilder groups = new StringBuilder();
            while (groups.length() == 0) {
                for (int g = 0; g < n; g++) {
                    if (r.nextInt(n) == 0) {
                        groups.append((char) ('A' + g));
                    }
                }
            }
            int low = 1 + r.nextInt(r.nextInt(6) == 0 ? 15 : 3);
            int high = low + r.nextInt(r.nextInt(6) == 0 ? 32 - low : 3);
            into.add(new Object[] {groups.toString(), low, high});
            s.append(k > 0 ? ";" : "").append(groups).append(low).append('-').append(high);
        }
        return s.toString();
    }

    void step(Check c, RoadHouse x, String name, Random r) {
        int a = r.nextInt(n);
        int b = r.nextInt(n);
        switch (r.nextInt(14)) {
            case 0: {
                if (r.nextInt(4) == 0) {
                    n = 1 + r.nextInt(r.nextInt(3) == 0 ? 6 : 3);
                    due(c, name, x, 0, 500, n);
                    begin();
                }
                break;
            }
            case 1: {
                int v = r.nextInt(5) == 0 ? r.nextInt(18) - 1 : r.nextInt(4);
                boolean can = a != b && v >= 0 && v <= 15;
                due(c, name, x, can ? 1 : 0, 501, a, b, v);
                if (can) {
                    clash[a][b] = true;
                    clash[b][a] = true;
                    between[a][b] = v;
                    restart();
                }
                break;
            }
            case 2: {
                int v = r.nextInt(5) == 0 ? r.nextInt(18) - 1 : 1 + r.nextInt(3);
                due(c, name, x, v >= 1 && v <= 15 ? 1 : 0, 502, a, v);
                if (v >= 1 && v <= 15) {
                    least[a] = v;
                    restart();
                }
                break;
            }
            case 3: {
                int v = r.nextInt(34) - 1;
                due(c, name, x, v >= 1 && v <= 31 ? 1 : 0, 503, a, v);
                if (v >= 1 && v <= 31) {
                    most[a] = v;
                    restart();
                }
                break;
            }
            case 4: case 5: {
                List<Object[]> p = new ArrayList<>();
                String text = phases(r, n, p);
                if (text.length() > 60) {
                    break;
                }
                c.collect(x, 504, text);
                boolean can = plans.size() < 3;
                due(c, name + " " + text, x, can ? p.size() : -1 - text.length(), 505);
                if (can) {
                    plans.add(p);
                    restart();
                }
                break;
            }
            case 6: case 7: {
                int second = seconds + r.nextInt(8) - 1;
                boolean plan = r.nextInt(3) == 0;
                int which = r.nextInt((plan ? 4 : n + 1)) - (r.nextInt(9) == 0 ? 1 : 0);
                boolean can = which >= 0 && which < (plan ? plans.size() : n) && second > seconds && !told.containsKey(second) && count < 60;
                due(c, name, x, can ? 1 : 0, plan ? 508 : 507, which, second);
                if (can) {
                    told.put(second, 1 + which + (plan ? n : 0));
                    count++;
                }
                break;
            }
            case 8: case 9: case 10: {
                for (int k = r.nextInt(8); k >= 0; k--) {
                    long want = -1;
                    if (!plans.isEmpty()) {
                        seconds++;
                        want = machine.second(told.getOrDefault(seconds, 0));
                    }
                    due(c, name, x, want, 509);
                }
                break;
            }
            case 11: {
                int limit = r.nextInt(3) == 0 ? r.nextInt(403) - 1 : 400;
                long want = prove(limit);
                due(c, name, x, want, 512, limit);
                break;
            }
            default: compare(c, x, name, r);
        }
    }

    void begin() {
        for (int k = 0; k < 6; k++) {
            Arrays.fill(between[k], 0);
            Arrays.fill(clash[k], false);
        }
        Arrays.fill(least, 1);
        Arrays.fill(most, 31);
        plans.clear();
        restart();
    }

    public static void main(String[] args) {
        Check c = new Check("SignalsOracleTest");
        int runs = args.length > 0 ? Integer.parseInt(args[0]) : 150;
        int[] proofs = new int[4];
        for (int run = 0; run < runs; run++) {
            Random r = new Random(run);
            SignalsOracleTest o = new SignalsOracleTest();
            RoadHouse x = new RoadHouse();
            o.begin();
            if (run % 4 > 0) {
                o.n = 2 + r.nextInt(2);
                due(c, "begin", x, 0, 500, o.n);
                o.begin();
            }
            for (int k = 0; k < 60; k++) {
                o.step(c, x, "run " + run + " step " + k, r);
                proofs[o.proof + 1]++;
            }
        }
        System.out.println("SignalsOracleTest: without proof, fault, sound, too many: " + Arrays.toString(proofs));
        c.end();
    }
}
