import java.math.BigInteger;
import java.util.ArrayList;
import java.util.Arrays;
import java.util.List;
import java.util.Random;

/** Part CONTRACT against a program that reads expressions as trees and sums all up anew for each answer. */
public final class ContractOracleTest {
    static final class Tree {
        char sign;
        long number;
        Tree a;
        Tree b;
    }

    @SuppressWarnings("serial")
    static final class Wrong extends RuntimeException {
        final int word;

        Wrong(int word) {
            this.word = word;
        }
    }

    @SuppressWarnings("serial")
    static final class DividesByNothing extends RuntimeException {
    }

    static final class Item {
        String name;
        Tree tree;
        long step = 1;
        long cents;
    }

    static final class Entry {
        int shape;
        int item;
        int month;
        boolean plain;
        long v;
    }

    List<Item> items = new ArrayList<>();
    List<int[]> shapes = new ArrayList<>();
    List<Entry> entries = new ArrayList<>();
    List<int[]> changes = new ArrayList<>();
    List<int[]> penalties = new ArrayList<>();
    List<int[]> open = new ArrayList<>();
    int[][] index = new int[12][];
    int[] keep = {0, 1};
    int back = -1;
    int[] weight = new int[4];
    String text = "";

    // reading
    List<String> words;
    int at;
    int things;
    int brackets;

    static List<String> words(String s) {
        List<String> list = new ArrayList<>();
        java.util.regex.Matcher m = java.util.regex.Pattern.compile("[a-z]+|[0-9]+|[^ ]").matcher(s);
        while (m.find()) {
            list.add(m.group());
        }
        return list;
    }

    String word() {
        return at < words.size() ? words.get(at) : "";
    }

    void need(boolean can) {
        if (!can) {
            throw new Wrong(at);
        }
    }

    void thing() {
        need(things < 30);
        things++;
    }

    Tree expression() {
        Tree t = term();
        while (word().equals("+") || word().equals("-")) {
            t = joined(t, false);
        }
        return t;
    }

    Tree joined(Tree a, boolean factor) {
        Tree t = new Tree();
        thing();
        t.sign = word().charAt(0);
        at++;
        t.a = a;
        t.b = factor ? factor() : term();
        return t;
    }

    Tree term() {
        Tree t = factor();
        while (word().equals("*") || word().equals("/")) {
            t = joined(t, true);
        }
        return t;
    }

    Tree factor() {
        String w = word();
        Tree t = new Tree();
        if (w.equals("(")) {
            need(brackets < 10);
            brackets++;
            at++;
            t = expression();
            need(word().equals(")"));
            brackets--;
            at++;
            return t;
        }
        need(w.matches("[kabc]|[0-9]{1,4}"));
        thing();
        at++;
        t.sign = Character.isDigit(w.charAt(0)) ? '0' : w.charAt(0);
        t.number = t.sign == '0' ? Long.parseLong(w) : 0;
        return t;
    }

    List<Item> parse(String s) {
        words = words(s);
        at = 0;
        List<Item> list = new ArrayList<>();
        while (true) {
            Item i = new Item();
            String w = word();
            need(w.matches("[a-z]{1,8}") && list.size() < 8 && list.stream().noneMatch(o -> o.name.equals(w)));
            i.name = w;
            at++;
            need(word().equals("="));
            at++;
            things = 0;
            brackets = 0;
            i.tree = expression();
            if (word().equals("~")) {
                at++;
                need(word().matches("[0-9]{1,4}") && Integer.parseInt(word()) > 0);
                i.step = Integer.parseInt(word());
                at++;
            }
            list.add(i);
            if (at == words.size()) {
                return list;
            }
            need(word().equals(";"));
            at++;
        }
    }

    static long value(Tree t, int[] s) {
        switch (t.sign) {
            case '0': return t.number;
            case 'k': return s[0];
            case 'a': return s[1];
            case 'b': return s[2];
            case 'c': return s[3];
            default:
        }
        long a = value(t.a, s);
        long b = value(t.b, s);
        if (t.sign == '/') {
            if (b == 0) {
                throw new DividesByNothing();
            }
            return a / b;
        }
        return t.sign == '+' ? a + b : t.sign == '-' ? a - b : a * b;
    }

    /** The measure, null if it is open. */
    Long measure(int i, int[] s) {
        try {
            long step = items.get(i).step;
            return Math.floorDiv(2 * value(items.get(i).tree, s) + step, 2 * step) * step;
        } catch (DividesByNothing e) {
            return null;
        }
    }

    void add(int shape, int item, int month, boolean plain, long v) {
        Entry e = new Entry();
        e.shape = shape;
        e.item = item;
        e.month = month;
        e.plain = plain;
        e.v = v;
        entries.add(e);
    }

    void tellOpen(int... v) {
        if (open.size() < 100) {
            open.add(v);
        }
    }

    long quantity(int i, int month) {
        return entries.stream().filter(e -> e.item == i && e.month == month).mapToLong(e -> e.v).sum();
    }

    long rate(int i, int month) {
        long v = items.get(i).cents;
        for (int[] c : changes) {
            if (c[0] == i && c[3] <= month) {
                v = v * c[1] / c[2];
            }
        }
        return v;
    }

    long gross(int month) {
        long gross = 0;
        for (int i = 0; i < items.size(); i++) {
            gross += quantity(i, month) * rate(i, month);
        }
        return gross * index[month][0] / index[month][1];
    }

    long kept(int month) {
        return gross(month) > 0 ? gross(month) * keep[0] / keep[1] : 0;
    }

    long keptUpTo(int month) {
        long sum = 0;
        for (int m = 0; m <= month; m++) {
            sum += kept(m);
        }
        return sum;
    }

    long pay(int month, int part) {
        long fines = 0;
        for (int[] p : penalties) {
            fines += p[0] <= month && month <= p[1] ? p[2] : 0;
        }
        long comes = month == back ? keptUpTo(month) : 0;
        long[] parts = {gross(month), kept(month), fines, comes, gross(month) - kept(month) - fines + comes};
        return parts[part];
    }

    long shareOf(int firm, int month) {
        BigInteger net = BigInteger.valueOf(pay(month, 4));
        int all = Arrays.stream(weight).sum();
        if (all == 0) {
            return 0;
        }
        BigInteger left = net.abs();
        BigInteger[] share = new BigInteger[4];
        List<Integer> order = new ArrayList<>();
        for (int f = 0; f < 4; f++) {
            share[f] = net.abs().multiply(BigInteger.valueOf(weight[f])).divide(BigInteger.valueOf(all));
            left = left.subtract(share[f]);
            order.add(f);
        }
        order.sort((p, q) -> Integer.compare(rest(net, q, all), rest(net, p, all)));
        for (int k = 0; k < left.intValueExact(); k++) {
            share[order.get(k)] = share[order.get(k)].add(BigInteger.ONE);
        }
        return share[firm].multiply(BigInteger.valueOf(net.signum())).longValueExact();
    }

    int rest(BigInteger net, int f, int all) {
        return net.abs().multiply(BigInteger.valueOf(weight[f])).mod(BigInteger.valueOf(all)).intValue();
    }

    static void due(Check c, String name, RoadHouse x, long want, int... call) {
        int[] a = Arrays.copyOf(call, 6);
        c.due(name + " " + Arrays.toString(call), x.act(a[0], a[1], a[2], a[3], a[4], a[5]), want);
    }

    static String tree(Random r, int depth) {
        if (depth == 0 || r.nextInt(4) == 0) {
            return r.nextInt(3) == 0 ? Integer.toString(r.nextInt(r.nextInt(4) == 0 ? 10000 : 12)) : "kabc".charAt(r.nextInt(4)) + "";
        }
        String s = tree(r, depth - 1) + "+-*/".charAt(r.nextInt(4)) + tree(r, depth - 1);
        return r.nextBoolean() ? "(" + s + ")" : s;
    }

    static String text(Random r) {
        StringBuilder s = new StringBuilder();
        int n = 1 + r.nextInt(r.nextInt(6) == 0 ? 10 : 4);
        for (int k = 0; k < n; k++) {
            String name = r.nextInt(5) == 0 ? "kabc".charAt(r.nextInt(4)) + "" : "name".substring(0, 1 + r.nextInt(4)) + (char) ('a' + r.nextInt(26));
            s.append(k > 0 ? ";" : "").append(name).append('=').append(tree(r, n > 5 ? 1 : r.nextInt(5)));
            if (r.nextInt(3) == 0) {
                s.append('~').append(r.nextInt(r.nextBoolean() ? 10 : 10000));
            }
        }
        if (r.nextInt(12) == 0) {
            s = new StringBuilder("deep=").append("(".repeat(9 + r.nextInt(3))).append('a').append(")".repeat(9 + r.nextInt(3)));
        }
        if (r.nextInt(12) == 0) {
            s = new StringBuilder("long=a").append("+1".repeat(13 + r.nextInt(3))).append("*b".repeat(r.nextInt(2)));
        }
        for (int k = r.nextInt(3) * r.nextInt(3); k > 0 && s.length() > 1; k--) {
            int at = r.nextInt(s.length());
            switch (r.nextInt(4)) {
                case 0: s.deleteCharAt(at); break;
                case 1: s.insert(at, "=~;()+-*/ kz09A".charAt(r.nextInt(15))); break;
                case 2: s.setCharAt(at, "=~;()+-*/ kz09A".charAt(r.nextInt(15))); break;
                default: s.insert(at, ' ');
            }
        }
        return s.length() > 200 ? s.substring(0, 200) : s.toString();
    }

    static int month(Random r) {
        return r.nextInt(15) == 0 ? r.nextInt(2) * 13 - 1 : r.nextInt(12);
    }

    static boolean isMonth(int m) {
        return m >= 0 && m < 12;
    }

    static int size(Random r) {
        return r.nextInt(6) == 0 ? (r.nextInt(2) * 2 - 1) * (9999 + r.nextInt(2)) : r.nextInt(30) - 10;
    }

    static boolean isSize(int v) {
        return Math.abs(v) <= 9999;
    }

    void readText(Check c, RoadHouse x, String name, Random r) {
        String more = text(r);
        for (char u : more.toCharArray()) {
            boolean can = text.length() < 200;
            due(c, name, x, can ? 1 : 0, 700, u);
            text += can ? u : "";
        }
        if (!items.isEmpty()) {
            due(c, name, x, -1000, 701);
            return;
        }
        long want;
        try {
            items = parse(text);
            want = items.size();
        } catch (Wrong e) {
            want = -1 - e.word;
        }
        due(c, name + " " + text, x, want, 701);
        text = "";
    }

    void set(Check c, RoadHouse x, String name, Random r) {
        int i = r.nextInt(items.size() + 1) - (r.nextInt(15) == 0 ? 1 : 0);
        boolean isItem = i >= 0 && i < items.size();
        int s = r.nextInt(shapes.size() + 1);
        boolean isShape = s < shapes.size();
        int m = month(r);
        switch (r.nextInt(15)) {
            case 0: {
                int v = r.nextInt(9) == 0 ? 1000001 : r.nextInt(3000) - 1000;
                due(c, name, x, v > 1000000 ? 0 : isItem ? 1 : -1, 702, i, v);
                if (v <= 1000000 && isItem) {
                    items.get(i).cents = v;
                } else if (v <= 1000000) {
                    tellOpen(1, i, -1);
                }
                break;
            }
            case 1: case 2: case 3: {
                int[] q = {r.nextInt(5) - (r.nextInt(9) == 0 ? 1 : 0), size(r), size(r), size(r)};
                boolean can = q[0] >= 0 && q[0] <= 3 && isSize(q[1]) && isSize(q[2]) && isSize(q[3]) && shapes.size() < 40;
                due(c, name, x, can ? shapes.size() : -1, 703, q[0], q[1], q[2], q[3]);
                if (can) {
                    shapes.add(q);
                }
                break;
            }
            case 4: case 5: case 6: case 7: {
                boolean can = isItem && isShape && isMonth(m) && entries.size() < 60;
                due(c, name, x, can ? 1 : 0, 704, s, i, m);
                if (can) {
                    Long v = measure(i, shapes.get(s));
                    add(s, i, m, true, v == null ? 0 : v);
                    if (v == null) {
                        tellOpen(0, i, s);
                    }
                }
                break;
            }
            case 8: {
                int up = r.nextInt(5) == 0 ? r.nextInt(1003) - 1 : r.nextInt(4);
                int low = r.nextInt(5) == 0 ? r.nextInt(1003) - 1 : r.nextInt(4);
                boolean can = isItem && up >= 0 && up <= 1000 && low >= 1 && low <= 1000 && isMonth(m) && changes.size() < 20;
                due(c, name, x, can ? changes.size() + 1 : -1, 710, i, up, low, m);
                if (can) {
                    changes.add(new int[] {i, up, low, m});
                }
                break;
            }
            case 9: {
                int up = r.nextInt(8) - 1;
                int low = r.nextInt(8);
                boolean can = isMonth(m) && up >= 0 && low >= 1;
                due(c, name, x, can ? 1 : 0, 711, m, up, low);
                if (can) {
                    index[m] = new int[] {up, low};
                }
                break;
            }
            case 10: {
                int up = r.nextInt(8) - 1;
                int low = r.nextInt(8);
                boolean can = up >= 0 && up <= low && low >= 1;
                due(c, name, x, can ? 1 : 0, 712, up, low);
                if (can) {
                    keep = new int[] {up, low};
                }
                break;
            }
            case 11: {
                if (r.nextInt(3) == 0) {
                    boolean can = isMonth(m) && back < 0;
                    due(c, name, x, can ? keptUpTo(m) : -1, 714, m);
                    back = can ? m : back;
                }
                break;
            }
            case 12: {
                int to = month(r);
                int v = r.nextInt(5) == 0 ? 1000001 : r.nextInt(1000);
                boolean can = isMonth(m) && isMonth(to) && m <= to && v <= 1000000 && penalties.size() < 10;
                due(c, name, x, can ? 1 : 0, 715, m, to, v);
                if (can) {
                    penalties.add(new int[] {m, to, v});
                }
                break;
            }
            case 13: {
                int f = r.nextInt(6) - 1;
                int v = r.nextInt(1003) - 1;
                boolean can = f >= 0 && f < 4 && v >= 0 && v <= 1000;
                due(c, name, x, can ? 1 : 0, 717, f, v);
                if (can) {
                    weight[f] = v;
                }
                break;
            }
            default: {
                int a = size(r);
                long count = entries.stream().filter(e -> e.plain && e.shape == s).count();
                boolean can = isShape && isSize(a) && isMonth(m) && entries.size() + count <= 60;
                due(c, name, x, can ? count : -1, 719, s, a, m);
                if (can) {
                    int[] was = shapes.get(s);
                    int[] is = was.clone();
                    is[1] = a;
                    for (Entry e : new ArrayList<>(entries)) {
                        if (e.plain && e.shape == s) {
                            Long v = measure(e.item, is);
                            Long w = measure(e.item, was);
                            add(s, e.item, m, false, (v == null ? 0 : v) - (w == null ? 0 : w));
                            if (v == null) {
                                tellOpen(0, e.item, s);
                            }
                        }
                    }
                    shapes.set(s, is);
                }
            }
        }
    }

    void compare(Check c, RoadHouse x, String name, Random r) {
        StringBuilder bill = new StringBuilder();
        for (int i = 0; i <= items.size(); i++) {
            int k = i;
            boolean is = i < items.size();
            long q = 0;
            long p = 0;
            for (int m = 0; m < 12 && is; m++) {
                int month = m;
                long v = quantity(i, m);
                q += v;
                p += v * rate(i, m);
                for (int call = 705; call <= 706; call++) {
                    due(c, name, x, v, call, i, m, 0);
                    due(c, name, x, entries.stream().filter(e -> e.item == k && e.month == month && e.plain).count(), call, i, m, 1);
                    due(c, name, x, entries.stream().filter(e -> e.item == k && e.month == month && !e.plain).count(), call, i, m, 2);
                    due(c, name, x, -1, call, i, m, 3);
                }
            }
            if (!is) {
                due(c, name, x, -1, 705, i, 0, 0);
                c.dueThrow(x, ArrayIndexOutOfBoundsException.class, 722, i);
                continue;
            }
            due(c, name, x, entries.stream().filter(e -> e.item == k && e.plain).count(), 722, i);
            bill.append(items.get(i).name).append(':').append(q).append('=').append(p).append(';');
            int seen = 0;
            for (Entry e : entries) {
                if (e.plain && e.item == i && entries.stream().anyMatch(o -> o != e && o.plain && o.shape == e.shape)) {
                    due(c, name, x, e.shape, 721, i, seen++);
                }
            }
            due(c, name, x, -1, 721, i, seen);
        }
        for (int i = -1; i <= bill.length(); i++) {
            due(c, name, x, i >= 0 && i < bill.length() ? bill.charAt(i) : -1, 723, i);
        }
        long sum = 0;
        long[] all = new long[5];
        for (int m = 0; m < 12; m++) {
            for (int part = 0; part < 5; part++) {
                due(c, name, x, pay(m, part), 707, m, part);
                all[part] += pay(m, part);
            }
            sum += pay(m, 4);
            due(c, name, x, sum, 716, m);
            due(c, name, x, keptUpTo(m) - (back >= 0 && back <= m ? keptUpTo(back) : 0), 713, m);
            for (int f = 0; f < 4; f++) {
                due(c, name, x, shareOf(f, m), 718, f, m);
            }
        }
        for (int part = 0; part < 5; part++) {
            due(c, name, x, all[part], 720, part);
        }
        int k = 0;
        for (int j = 0; j < entries.size(); j++) {
            for (int i = 0; i < j; i++) {
                if (entries.get(i).plain && entries.get(j).plain && entries.get(i).shape == entries.get(j).shape) {
                    if (k < 20) {
                        due(c, name, x, entries.get(j).shape, 708, k, 0);
                        due(c, name, x, entries.get(i).item, 708, k, 1);
                        due(c, name, x, entries.get(j).item, 708, k, 2);
                    }
                    k++;
                }
            }
        }
        due(c, name, x, -1, 708, k, 0);
        for (int i = 0; i < open.size(); i++) {
            for (int what = 0; what < 3; what++) {
                due(c, name, x, open.get(i)[what], 709, i, what);
            }
        }
        due(c, name, x, -1, 709, open.size(), 0);
        c.due(name + " whole 8", x.whole(8), 1);
    }

    public static void main(String[] args) {
        Check c = new Check("ContractOracleTest");
        int runs = args.length > 0 ? Integer.parseInt(args[0]) : 150;
        for (int run = 0; run < runs; run++) {
            Random r = new Random(run);
            ContractOracleTest o = new ContractOracleTest();
            for (int m = 0; m < 12; m++) {
                o.index[m] = new int[] {1, 1};
            }
            RoadHouse x = new RoadHouse();
            String name = "run " + run;
            for (int k = 0; k < 6; k++) {
                o.readText(c, x, name, r);
            }
            for (int k = 0; k < 150; k++) {
                o.set(c, x, name + " " + k, r);
                if (k % 50 == 49) {
                    o.compare(c, x, name + " " + k, r);
                }
            }
        }
        c.end();
    }
}
