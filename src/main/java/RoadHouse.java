import java.util.Arrays;

/** The desk that brings what one part of the house tells to the next one; the parts are the classes inside. */
public final class RoadHouse {
    public static final int BAD = -1;
    public static final long NONE = -9000000000000000000L;

    private static final int SIGNAL_CELLS = 6;
    private static final int STRESS_LIMIT = 1000000;

    private final Way ways = new Way();
    private final Earth soil = new Earth();
    private final Beams beams = new Beams();
    private final Trains trains = new Trains();
    private final Stress stress = new Stress();
    private final Signals signals = new Signals();
    private final Cars cars = new Cars();
    private final Contract contract = new Contract();
    private final boolean[] cellGreen = new boolean[SIGNAL_CELLS];
    private int goodCalls;

    public RoadHouse() {
        for (int k = 0; k < SIGNAL_CELLS; k++) {
            cellGreen[k] = true;
        }
    }

    public long act(int call, int a, int b, int c, int d, int e)
            throws ArrayIndexOutOfBoundsException, IllegalArgumentException, IllegalStateException,
            NegativeArraySizeException {
        if (call < 0) {
            return NONE;
        }
        int number = call % 100;
        switch (call / 100) {
            case 0: return ways.answer(number, a, b, c, d, e);
            case 1: return soil.answer(number, a, b, c, d);
            case 2: return beams.answer(number, a, b, c, d);
            case 3: return trains.answer(number, a, b, c);
            case 4: return stress.answer(number, a, b, c);
            case 5: return signals.answer(number, a, b, c);
            case 6: return cars.answer(number, a, b, c, d);
            case 7: return contract.answer(number, a, b, c, d);
            default: return NONE;
        }
    }

    public double logJoin(int cls, double range) {
        return stress.bornBetween(cls, range);
    }

    public int crack(double from, double to, int steps) {
        return stress.yearsToGrow(from, to, steps);
    }

    public double crackAt(int year) {
        return stress.sizeBehind(year);
    }

    public int earth(int kind, int week) {
        if (!ways.atHand() || kind < 0 || kind > 3 || week < 0 || week > 11) {
            return BAD;
        }
        goodCalls++;
        int places = ways.places();
        int total = ways.metre(places - 1);
        int first = ways.levelAt(0);
        int rise = ways.levelAt(places - 1) - first;
        int came = 0;
        for (int k = 0; k < places; k++) {
            if (ways.bridgedAt(k) || total == 0) {
                continue;
            }
            int metre = ways.metre(k);
            int above = ways.levelAt(k) - first - (int) Math.floorDiv((long) rise * metre, (long) total);
            if (above > 0 && soil.addCut(10 * above, kind, week, metre) != BAD) {
                came++;
            }
            if (above < 0 && soil.addFill(-10 * above, Math.min(week + 1, 11), metre) != BAD) {
                came++;
            }
        }
        return came;
    }

    public int bridge(int k, int stiff) {
        if (!ways.atHand() || k < 0 || stiff < 1 || stiff > 12) {
            return BAD;
        }
        int start = ways.bridgedRow(k);
        if (start < 0) {
            return BAD;
        }
        int behind = start;
        int places = ways.places();
        while (behind < places && ways.bridgedAt(behind)) {
            behind++;
        }
        if (behind >= places || behind - start + 1 > Beams.MOST_BEAMS) {
            return BAD;
        }
        goodCalls++;
        beams.forgetText();
        beams.collect('S');
        for (int p = start; p <= behind; p++) {
            collectNumber((ways.metre(p) - ways.metre(p - 1)) / 2);
            beams.collect('x');
            collectNumber(stiff);
            beams.collect('S');
        }
        return (int) beams.read();
    }

    private void collectNumber(int v) {
        if (v > 9) {
            beams.collect('0' + v / 10);
        }
        beams.collect('0' + v % 10);
    }

    public int rowOf(int row) {
        int count = 4 * beams.beamCount() + 1;
        long[] corners = new long[count];
        for (int q = 0; q < count; q++) {
            long v = beams.thousandths(row, q);
            if (v < -STRESS_LIMIT || v > STRESS_LIMIT) {
                return BAD;
            }
            corners[q] = v;
        }
        goodCalls++;
        trains.clearRow();
        int place = 0;
        for (int q = 0; q < count; q++) {
            trains.addCorner(place, (int) corners[q], 1000);
            place += beams.lengthAt(q);
        }
        return count;
    }

    public int pass(int train) {
        int tried = trains.forwardPlaces(train);
        if (tried < 0) {
            return BAD;
        }
        goodCalls++;
        int came = 0;
        for (int k = 0; k < tried; k++) {
            long v = trains.wholeEffect(train, k);
            if (v >= -STRESS_LIMIT && v <= STRESS_LIMIT && stress.feed((int) v)) {
                came++;
            }
        }
        stress.feed(0);
        return came;
    }

    public int drive(int seconds) {
        if (!signals.hasPlan() || seconds < 1 || seconds > 100) {
            return BAD;
        }
        goodCalls++;
        int done = 0;
        for (int i = 0; i < seconds && cars.stepsLeft(); i++) {
            if (signals.nextSecond() != 0) {
                break;
            }
            tellCells();
            cars.step();
            done++;
        }
        return done;
    }

    private void tellCells() {
        for (int g = 0; g < signals.groups() && g < SIGNAL_CELLS; g++) {
            boolean shown = signals.isShown(g);
            if (shown != cellGreen[g] && cars.setSignal(g, cars.stepsDone() + 1, shown)) {
                cellGreen[g] = shown;
            }
        }
    }

    public int bill(int item) {
        if (!soil.hasPlan() || !contract.isItem(item)) {
            return BAD;
        }
        goodCalls++;
        int came = 0;
        for (int s = 0; s < soil.sources(); s++) {
            for (int f = 0; f < soil.fillCount(); f++) {
                long v = soil.planned(s, f);
                if (v <= 0 || v >= 10000000) {
                    continue;
                }
                int cents = (int) Math.min(soil.unitCost(s, f, Earth.EVERY_WAY), 9999);
                int shape = contract.addShape(0, (int) (v / 1000), (int) (v % 1000), cents);
                if (shape != BAD && contract.addPlain(shape, item, soil.weekOfFill(f))) {
                    came++;
                }
            }
        }
        return came;
    }

    public int whole(int what) {
        boolean holds;
        switch (what) {
            case 0: return goodCalls;
            case 1: holds = ways.keeps(); break;
            case 2:
                if (!soil.hasPlan()) {
                    return BAD;
                }
                holds = soil.check() == 0;
                break;
            case 3: holds = beams.sumsAreOne(); break;
            case 4: holds = trains.cornersAreWorst(); break;
            case 5: holds = stress.sameAnew(); break;
            case 6: holds = signals.allAnswered(); break;
            case 7: holds = cars.allKept(); break;
            case 8: holds = contract.walksAgree(); break;
            default: return BAD;
        }
        return holds ? 1 : 0;
    }

    /** The greatest number that divides both; of 0 and 0 it is 1, so that it can always divide. */
    private static long common(long a, long b) {
        long x = a < 0 ? -a : a;
        long y = b < 0 ? -b : b;
        for (int i = 0; i < 200 && y != 0; i++) {
            long rest = x % y;
            x = y;
            y = rest;
        }
        return x == 0 ? 1 : x;
    }

    /** A whole number of either sign, in limbs of 30 bits; its room is fixed, so that no call has to make objects. */
    private static final class Big {
        static final long BASE = 1L << 30;
        static final long LOW = BASE - 1;
        final int[] d;
        int len;
        int sign;

        Big(int room) {
            d = new int[room];
        }

        void set(long v) {
            sign = v > 0 ? 1 : v < 0 ? -1 : 0;
            len = 0;
            // the negative side reaches farther than the positive one
            long rest = v > 0 ? -v : v;
            while (rest != 0 && len < d.length) {
                d[len++] = (int) -(rest % BASE);
                rest /= BASE;
            }
        }

        void copy(Big o) {
            len = Math.min(o.len, d.length);
            System.arraycopy(o.d, 0, d, 0, len);
            sign = o.sign;
        }

        private void trim(int top) {
            len = top;
            while (len > 0 && d[len - 1] == 0) {
                len--;
            }
            if (len == 0) {
                sign = 0;
            }
        }

        int compareSize(Big o) {
            if (len != o.len) {
                return len < o.len ? -1 : 1;
            }
            for (int i = len - 1; i >= 0; i--) {
                if (d[i] != o.d[i]) {
                    return d[i] < o.d[i] ? -1 : 1;
                }
            }
            return 0;
        }

        int compare(Big o) {
            if (sign != o.sign) {
                return sign < o.sign ? -1 : 1;
            }
            return sign * compareSize(o);
        }

        /** Adds a number, so many times: 1 or - 1. */
        void add(Big o, int times) {
            int other = times * o.sign;
            boolean less = compareSize(o) < 0;
            Big big = less ? o : this;
            Big small = less ? this : o;
            int way = sign * other < 0 ? -1 : 1;
            int top = Math.min(big.len + 1, d.length);
            long carry = 0;
            for (int i = 0; i < top; i++) {
                long t = carry + (i < big.len ? big.d[i] : 0) + (i < small.len ? way * small.d[i] : 0);
                d[i] = (int) (t & LOW);
                carry = t >> 30;
            }
            sign = less ? other : sign;
            trim(top);
        }

        /** This becomes a times v; a is another number than this. */
        void product(Big a, long v) {
            int top = Math.min(a.len + 3, d.length);
            Arrays.fill(d, 0, top, 0);
            long rest = v > 0 ? -v : v;
            for (int k = 0; k < 3 && rest != 0; k++) {
                addRow(a, -(rest % BASE), k);
                rest /= BASE;
            }
            sign = v == 0 ? 0 : v < 0 ? -a.sign : a.sign;
            trim(v == 0 ? 0 : top);
        }

        /** This becomes a times b; both are other numbers than this. */
        void product(Big a, Big b) {
            int top = Math.min(a.len + b.len, d.length);
            Arrays.fill(d, 0, top, 0);
            for (int k = 0; k < b.len; k++) {
                addRow(a, b.d[k], k);
            }
            sign = a.sign * b.sign;
            trim(top);
        }

        private void addRow(Big a, long limb, int at) {
            if (limb == 0) {
                return;
            }
            long carry = 0;
            int end = Math.min(a.len + at, d.length);
            for (int i = at; i < end; i++) {
                long t = d[i] + a.d[i - at] * limb + carry;
                d[i] = (int) (t & LOW);
                carry = t >> 30;
            }
            if (end < d.length) {
                d[end] = (int) carry;
            }
        }

        /** Divides the size by v (1 to below BASE), cut off; answers the rest. */
        int divideSmall(int v) {
            if (v < 1) {
                return 0;
            }
            long rest = 0;
            for (int i = len - 1; i >= 0; i--) {
                long t = (rest << 30) + d[i];
                d[i] = (int) (t / v);
                rest = t % v;
            }
            trim(len);
            return (int) rest;
        }

        /** Divides this by v (not 0), cut off towards 0: q is what comes, the rest stays here; s is a place to work. */
        void divide(Big v, Big q, Big s) {
            int n = v.len;
            int m = len;
            int way = sign * v.sign;
            q.set(0);
            if (n == 0 || m < n || m >= d.length || n > s.d.length || m - n >= q.d.length) {
                return;
            }
            int shift = Integer.numberOfLeadingZeros(v.d[n - 1]) - 2;
            s.shifted(v, n, shift);
            d[m] = shifted(this, m, shift);
            for (int j = m - n; j >= 0; j--) {
                q.d[j] = quotientLimb(s, n, j);
            }
            q.sign = way;
            q.trim(m - n + 1);
            for (int i = 0; i < n; i++) {
                long next = i + 1 < n ? d[i + 1] : 0;
                d[i] = (int) ((d[i] >> shift) | (next << (30 - shift) & LOW));
            }
            trim(n);
        }

        /** The first n limbs become those of v, moved up by shift bits; answers what goes beyond them. */
        private int shifted(Big v, int n, int shift) {
            long carry = 0;
            for (int i = 0; i < n; i++) {
                long t = ((long) v.d[i] << shift) | carry;
                d[i] = (int) (t & LOW);
                carry = t >> 30;
            }
            return (int) carry;
        }

        /** One limb of a division by the n limbs of s (the highest bit set): guessed by two limbs, then set right. */
        private int quotientLimb(Big s, int n, int j) {
            long first = s.d[n - 1];
            long second = n > 1 ? s.d[n - 2] : 0;
            long third = n > 1 ? d[j + n - 2] : 0;
            long head = d[j + n] * BASE + d[j + n - 1];
            long guess = head / first;
            long left = head % first;
            for (int k = 0; k < 3 && left < BASE && (guess >= BASE || guess * second > left * BASE + third); k++) {
                guess--;
                left += first;
            }
            long carry = 0;
            for (int i = 0; i < n; i++) {
                long t = d[i + j] + carry - guess * s.d[i];
                d[i + j] = (int) (t & LOW);
                carry = t >> 30;
            }
            long top = d[j + n] + carry;
            if (top < 0) {
                guess--;
                carry = 0;
                for (int i = 0; i < n; i++) {
                    long t = carry + d[i + j] + s.d[i];
                    d[i + j] = (int) (t & LOW);
                    carry = t >> 30;
                }
                top += carry;
            }
            d[j + n] = (int) (top & LOW);
            return (int) guess;
        }
    }

    /** A fraction with a lower part above 0, and the room to work with it. */
    private static final class Ratio {
        static final int BILLION = 1000000000;
        final Big up;
        final Big low;
        private final Big x;
        private final Big y;
        private final Big q;
        private final Big s;

        Ratio(int room) {
            up = new Big(room);
            low = new Big(room);
            x = new Big(room);
            y = new Big(room);
            q = new Big(room);
            s = new Big(room);
            low.set(1);
        }

        void set(long n, long d) {
            up.set(n);
            low.set(d);
        }

        /** The greatest number that divides both, at least one of which is not 0; told in a place of this object. */
        Big greatestCommon(Big a, Big b) {
            Big more = x;
            Big less = y;
            more.copy(a);
            less.copy(b);
            more.sign = more.sign == 0 ? 0 : 1;
            less.sign = less.sign == 0 ? 0 : 1;
            for (int i = 0; i < 100000 && less.len > 0; i++) {
                if (more.len <= 2 && less.len <= 2) {
                    more.set(common(twoLimbs(more), twoLimbs(less)));
                    return more;
                }
                more.divide(less, q, s);
                Big swap = more;
                more = less;
                less = swap;
            }
            return more;
        }

        private static long twoLimbs(Big b) {
            return (b.len > 1 ? b.d[1] * Big.BASE : 0) + (b.len > 0 ? b.d[0] : 0);
        }

        /** Divides a number exactly. */
        void shrink(Big a, Big by) {
            a.divide(by, q, s);
            a.copy(q);
        }

        void reduce() {
            if (up.sign == 0) {
                low.set(1);
                return;
            }
            Big g = greatestCommon(up, low);
            if (g.len == 1 && g.d[0] == 1) {
                return;
            }
            shrink(up, g);
            shrink(low, g);
        }

        /** Adds n / d, d above 0; not in least terms. */
        void add(long n, long d) {
            x.product(up, d);
            y.product(low, n);
            x.add(y, 1);
            up.copy(x);
            x.product(low, d);
            low.copy(x);
        }

        /** Adds a fraction of two numbers, the lower one above 0; not in least terms. */
        void add(Big n, Big d) {
            x.product(up, d);
            y.product(low, n);
            x.add(y, 1);
            up.copy(x);
            x.product(low, d);
            low.copy(x);
        }

        /** Multiplies by n / d, d above 0; not in least terms. */
        void times(long n, long d) {
            x.product(up, n);
            up.copy(x);
            x.product(low, d);
            low.copy(x);
        }

        /** As fractions are told: part -1 the sign, then eighteen digits of the upper and the lower part in turn. */
        long part(int part) {
            if (part < -1) {
                return BAD;
            }
            if (part == -1) {
                return up.sign;
            }
            x.copy(part % 2 == 0 ? up : low);
            for (int k = part / 2; k > 0 && x.len > 0; k--) {
                x.divideSmall(BILLION);
                x.divideSmall(BILLION);
            }
            long lowDigits = x.divideSmall(BILLION);
            return lowDigits + (long) BILLION * x.divideSmall(BILLION);
        }

        /** Limb k of 32 bits of a number, without sign. */
        static long limb32(Big b, int k) {
            long sum = 0;
            for (int i = 0; i < b.len; i++) {
                int shift = 30 * i - 32 * k;
                if (shift > -30 && shift < 32) {
                    sum |= shift >= 0 ? (long) b.d[i] << shift : b.d[i] >> -shift;
                }
            }
            return sum & 0xFFFFFFFFL;
        }
    }

    /** Part WAY: the grid, its settings, and what the ways found tell. */
    private static final class Way {
        static final int SIDE = 12;
        static final int CELLS = SIDE * SIDE;
        static final int MOST_FOUND = 6;
        static final int SPENT = -2;
        static final int REFUSED = -3;
        static final int NO_HEADING = 16;
        /** All weights have lower parts 1 .. 6: in sixtieths all costs are whole. */
        static final int PARTS = 60;
        static final int[] DX = {1, 2, 1, 1, 0, -1, -1, -2, -1, -2, -1, -1, 0, 1, 1, 2};
        static final int[] DY = {0, 1, 1, 2, 1, 2, 1, 1, 0, -1, -1, -2, -1, -2, -1, -1};
        static final int[] LENGTH = {10, 22, 14, 22, 10, 22, 14, 22, 10, 22, 14, 22, 10, 22, 14, 22};

        final int[] cost = new int[CELLS];
        final int[] level = new int[CELLS];
        final boolean[] barred = new boolean[CELLS];
        /** How many bridged cells there may be one behind the other; 0 where no bridge is. */
        final int[] most = new int[CELLS];
        final int[] cents = new int[CELLS];
        final int[] zone = new int[CELLS];
        /** Two bits for the kind of each person's mark. */
        final int[] marks = new int[CELLS];
        final int[][] value = new int[4][CELLS];
        final int[] above = new int[4];
        final int[] below = {1, 1, 1, 1};
        int reach = 1;
        int slope = 9999;
        int turn = 8;
        final int[][] found = new int[MOST_FOUND][1];
        int foundCount;
        private int nodes;
        private boolean proved;
        private long bound = -1;
        private final Search search = new Search();

        long answer(int call, int a, int b, int c, int d, int e) {
            switch (call) {
                case 0: return setCell(a, b, c, d) ? 1 : 0;
                case 1: return setBarred(a, b) ? 1 : 0;
                case 2: return setMoves(a, b, c) ? 1 : 0;
                case 3: return setValue(a, b, c, d) ? 1 : 0;
                case 4: return setWeight(a, b, c) ? 1 : 0;
                case 5: return find(a, b, c, d, e);
                case 6: return placeOf(a, b);
                case 7: return costPart(a);
                case 8: return bound;
                case 9: return proved ? 1 : 0;
                case 10: return findUnlike(a, b);
                case 11: return spanOf(a, b, c);
                case 12: return setBridge(a, b, c, d) ? 1 : 0;
                case 13: return mark(a, b, c, d);
                case 14: return setZone(a, b, c);
                case 15: return zoneSum(a);
                case 16: return turnsOf();
                case 17: return keeps() ? 1 : 0;
                default: return NONE;
            }
        }

        private static boolean inGrid(int x, int y) {
            return x >= 0 && x < SIDE && y >= 0 && y < SIDE;
        }

        private boolean setCell(int x, int y, int price, int height) {
            if (!inGrid(x, y) || price < 0 || price > 999 || height < 0 || height > 9999) {
                return false;
            }
            cost[y * SIDE + x] = price;
            level[y * SIDE + x] = height;
            return true;
        }

        private boolean setBarred(int x, int y) {
            if (!inGrid(x, y) || barred[y * SIDE + x]) {
                return false;
            }
            barred[y * SIDE + x] = true;
            return true;
        }

        private boolean setMoves(int newReach, int newSlope, int newTurn) {
            if (newReach < 1 || newReach > 2 || newSlope < 0 || newSlope > 9999 || newTurn < 0 || newTurn > 8) {
                return false;
            }
            reach = newReach;
            slope = newSlope;
            turn = newTurn;
            return true;
        }

        private boolean setValue(int aim, int x, int y, int v) {
            if (aim < 0 || aim > 3 || !inGrid(x, y) || v < 0 || v > 999) {
                return false;
            }
            value[aim][y * SIDE + x] = v;
            return true;
        }

        private boolean setWeight(int aim, int upper, int lower) {
            if (aim < 0 || aim > 3 || upper < 0 || upper > 20 || lower < 1 || lower > 6) {
                return false;
            }
            above[aim] = upper;
            below[aim] = lower;
            return true;
        }

        private boolean setBridge(int x, int y, int length, int price) {
            if (!inGrid(x, y) || length < 1 || length > 3 || price < 0 || price > 9999) {
                return false;
            }
            most[y * SIDE + x] = length;
            cents[y * SIDE + x] = price;
            return true;
        }

        private long mark(int person, int x, int y, int kind) {
            if (person < 0 || person > 7 || !inGrid(x, y) || kind < 0 || kind > 3) {
                return BAD;
            }
            int cell = y * SIDE + x;
            marks[cell] = marks[cell] & ~(3 << 2 * person) | kind << 2 * person;
            int persons = 0;
            for (int p = 0; p < 8; p++) {
                persons += (marks[cell] >> 2 * p & 3) != 0 ? 1 : 0;
            }
            return persons;
        }

        private long setZone(int z, int x, int y) {
            if (z < 0 || z > 7 || !inGrid(x, y)) {
                return BAD;
            }
            int was = zone[y * SIDE + x];
            zone[y * SIDE + x] = z;
            return was;
        }

        boolean bridged(int cell) {
            return barred[cell] && most[cell] > 0;
        }

        boolean passable(int cell) {
            return !barred[cell] || most[cell] > 0;
        }

        boolean slopeKept(int from, int to) {
            int rise = level[from] - level[to];
            return (rise < 0 ? -rise : rise) <= slope;
        }

        /** Whether a move by a heading may come behind one by another heading (or behind none). */
        boolean turnKept(int before, int next, boolean straight) {
            if (before == NO_HEADING || before == next) {
                return true;
            }
            return !straight && differ(before, next) <= turn;
        }

        static int differ(int a, int b) {
            int way = (a - b) & 15;
            return Math.min(way, 16 - way);
        }

        /** The cell to which a heading leads, -1 outside of the grid. */
        static int cellAt(int from, int heading, int times) {
            int x = from % SIDE + times * DX[heading];
            int y = from / SIDE + times * DY[heading];
            return inGrid(x, y) ? y * SIDE + x : -1;
        }

        static int headingOf(int from, int to) {
            int dx = to % SIDE - from % SIDE;
            int dy = to / SIDE - from / SIDE;
            for (int h = 0; h < NO_HEADING; h++) {
                if (DX[h] == dx && DY[h] == dy) {
                    return h;
                }
            }
            return 0;
        }

        private long aimValue(int aim, int cell) {
            long v = value[aim][cell];
            if (aim == 3) {
                for (int p = 0; p < 8; p++) {
                    v += 10 * (marks[cell] >> 2 * p & 3);
                }
            }
            return v;
        }

        /** What a unit of length costs into a cell, in sixtieths. */
        long price(int cell) {
            if (bridged(cell)) {
                return (long) PARTS * cents[cell];
            }
            long sum = (long) PARTS * cost[cell];
            for (int aim = 0; aim < 4; aim++) {
                if (above[aim] > 0) {
                    sum += PARTS / below[aim] * above[aim] * aimValue(aim, cell);
                }
            }
            return sum;
        }

        private long find(int x0, int y0, int x1, int y1, int mostLabels) {
            if (!inGrid(x0, y0) || !inGrid(x1, y1) || mostLabels < 1 || mostLabels > 100000) {
                return REFUSED;
            }
            int start = y0 * SIDE + x0;
            int end = y1 * SIDE + x1;
            if (start == end || barred[start] || barred[end]) {
                return REFUSED;
            }
            nodes = mostLabels;
            foundCount = 0;
            search.shareNone();
            return searchWay(start, end, 0);
        }

        private long findUnlike(int upper, int lower) {
            if (upper < 0 || upper > lower || lower < 1 || lower > 100 || foundCount < 1 || foundCount >= MOST_FOUND) {
                return REFUSED;
            }
            int moves = found[0].length - 1;
            int start = found[0][0];
            int end = found[0][moves];
            if (barred[start] || barred[end]) {
                return REFUSED;
            }
            search.shareNone();
            for (int w = 0; w < foundCount; w++) {
                for (int k = 0; k < found[w].length; k++) {
                    int cell = found[w][k];
                    search.shared[cell] = cell != start && cell != end;
                }
            }
            return searchWay(start, end, Math.min((moves - 1) * upper / lower, 8));
        }

        private long searchWay(int start, int end, int mostShared) {
            int label = search.closeLabels(this, start, end, nodes, mostShared);
            bound = search.lastCost / PARTS;
            proved = label != SPENT;
            if (label < 0) {
                return label;
            }
            found[foundCount] = search.cellsFrom(label);
            foundCount++;
            return found[foundCount - 1].length - 1;
        }

        boolean atHand() {
            return foundCount > 0;
        }

        private int[] hand() {
            return found[foundCount > 0 ? foundCount - 1 : 0];
        }

        int places() {
            return atHand() ? hand().length : 0;
        }

        int metre(int place) {
            int sum = 0;
            int[] way = hand();
            for (int k = 1; k <= place && k < way.length; k++) {
                sum += LENGTH[headingOf(way[k - 1], way[k])];
            }
            return sum;
        }

        int levelAt(int place) {
            return place >= 0 && place < places() ? level[hand()[place]] : 0;
        }

        boolean bridgedAt(int place) {
            return place >= 0 && place < places() && bridged(hand()[place]);
        }

        /** The first place of the k-th row of bridged places that has a place before it; -1 without one. */
        int bridgedRow(int k) {
            int seen = 0;
            for (int p = 1; p < places(); p++) {
                if (bridgedAt(p) && !bridgedAt(p - 1)) {
                    if (seen == k) {
                        return p;
                    }
                    seen++;
                }
            }
            return -1;
        }

        private long placeOf(int k, int axis) {
            if (k < 0 || k >= places() || axis < 0 || axis > 2) {
                return BAD;
            }
            int[] way = hand();
            if (axis == 2) {
                return k == 0 ? NO_HEADING : headingOf(way[k - 1], way[k]);
            }
            return axis == 0 ? way[k] % SIDE : way[k] / SIDE;
        }

        private long costOf(int[] way) {
            long sum = 0;
            for (int k = 1; k < way.length; k++) {
                sum += LENGTH[headingOf(way[k - 1], way[k])] * price(way[k]);
            }
            return sum;
        }

        private long costPart(int part) {
            if (!atHand() || part < 0 || part > 1) {
                return BAD;
            }
            long sum = costOf(hand());
            return (part == 0 ? sum : PARTS) / common(sum, PARTS);
        }

        /** How much of an aim a way has: its cost grows by that for each unit of the aim's weight. */
        private long aimOf(int[] way, int aim) {
            long sum = 0;
            for (int k = 1; k < way.length; k++) {
                if (!bridged(way[k])) {
                    sum += LENGTH[headingOf(way[k - 1], way[k])] * aimValue(aim, way[k]);
                }
            }
            return sum;
        }

        private long spanOf(int aim, int end, int part) {
            if (aim < 0 || aim > 3 || end < 0 || end > 1 || part < 0 || part > 1 || !atHand()) {
                return BAD;
            }
            long perUnit = PARTS / below[aim] * above[aim];
            long handAim = aimOf(hand(), aim);
            long handRest = costOf(hand()) - perUnit * handAim;
            long leastUp = 0;
            long leastLow = 1;
            long mostUp = 1;
            long mostLow = 0;
            boolean some = true;
            for (int w = 0; w < foundCount; w++) {
                long aimOfWay = aimOf(found[w], aim);
                long gain = costOf(found[w]) - perUnit * aimOfWay - handRest;
                long pull = handAim - aimOfWay;
                if (pull == 0) {
                    some &= gain >= 0;
                } else if (pull > 0 && gain * mostLow < mostUp * pull) {
                    mostUp = gain;
                    mostLow = pull;
                } else if (pull < 0 && -gain * leastLow > leastUp * -pull) {
                    leastUp = -gain;
                    leastLow = -pull;
                }
            }
            if (!some || leastUp * mostLow > mostUp * leastLow) {
                return part == 0 ? -1 : 1;
            }
            long up = end == 0 ? leastUp : mostUp;
            long low = PARTS * (end == 0 ? leastLow : mostLow);
            return (part == 0 ? up : low) / common(up, low);
        }

        private long zoneSum(int z) {
            if (z < 0 || z > 7 || !atHand()) {
                return BAD;
            }
            long sum = 0;
            for (int cell : hand()) {
                sum += zone[cell] == z ? cost[cell] : 0;
            }
            return sum;
        }

        private long turnsOf() {
            if (!atHand()) {
                return BAD;
            }
            int[] way = hand();
            int turns = 0;
            for (int k = 2; k < way.length; k++) {
                turns += headingOf(way[k - 1], way[k]) != headingOf(way[k - 2], way[k - 1]) ? 1 : 0;
            }
            return turns;
        }

        boolean keeps() {
            if (!atHand()) {
                return false;
            }
            int[] way = hand();
            if (barred[way[0]] || barred[way[way.length - 1]]) {
                return false;
            }
            int before = NO_HEADING;
            int row = 0;
            for (int k = 1; k < way.length; k++) {
                int from = way[k - 1];
                int to = way[k];
                int heading = headingOf(from, to);
                row = bridged(to) ? row + 1 : 0;
                if (!passable(to) || heading % 2 == 1 && reach == 1 || !slopeKept(from, to) || row > 0 && row > most[to]
                        || !turnKept(before, heading, bridged(from) || bridged(to))) {
                    return false;
                }
                before = heading;
            }
            return true;
        }
    }

    /** The labels of part WAY, closed from the end of the way back to its beginning. */
    private static final class Search {
        static final int HEADINGS = 17;
        static final int PER_CELL = HEADINGS * 4;
        static final int NEW = -1;
        static final int CLOSED = -2;
        /** Turns and moves in one number; there are fewer labels than this, so fewer moves on a best way. */
        static final long A_TURN = 1L << 20;

        final boolean[] shared = new boolean[Way.CELLS];
        long lastCost;
        private final long[] price = new long[Way.CELLS];
        private long[] cost = new long[1];
        private long[] count = new long[1];
        private int[] heap = new int[1];
        private int[] spot = new int[1];
        private int open;
        private Way grid;
        private int start;
        private int kinds;

        void shareNone() {
            for (int k = 0; k < Way.CELLS; k++) {
                shared[k] = false;
            }
        }

        /** The numbers of labels rise as 612 cell + 36 heading + 9 R + S does, with no gaps for an S that is not used. */
        private int label(int cell, int heading, int row, int share) {
            return ((cell * HEADINGS + heading) * 4 + row) * kinds + share;
        }

        private void makeRoom(int labels) {
            if (cost.length >= labels) {
                return;
            }
            // few steps of growth: what is let go is never given back
            int room = kinds == 1 ? labels : kinds <= 4 ? labels / kinds * 4 : labels / kinds * 9;
            cost = new long[room];
            count = new long[room];
            heap = new int[room];
            spot = new int[room];
        }

        /** The label of the first cell without heading, as it is closed; -1: it is none; SPENT. */
        int closeLabels(Way way, int from, int to, int nodes, int mostShared) {
            grid = way;
            start = from;
            kinds = mostShared + 1;
            int labels = Way.CELLS * PER_CELL * kinds;
            makeRoom(labels);
            Arrays.fill(spot, 0, labels, NEW);
            for (int k = 0; k < Way.CELLS; k++) {
                price[k] = way.price(k);
            }
            open = 0;
            lastCost = -Way.PARTS;
            for (int h = 0; h < Way.NO_HEADING; h += 3 - way.reach) {
                offer(label(to, h, 0, 0), 0, 0);
            }
            for (int closed = 0; open > 0; closed++) {
                if (closed >= nodes) {
                    return Way.SPENT;
                }
                int label = closeFirst();
                lastCost = cost[label];
                if (label / kinds / 4 == start * HEADINGS + Way.NO_HEADING) {
                    return label;
                }
                offerBefore(label);
            }
            return -1;
        }

        private int closeFirst() {
            int first = heap[0];
            spot[first] = CLOSED;
            open--;
            if (open > 0) {
                heap[0] = heap[open];
                spot[heap[0]] = 0;
                sink();
            }
            return first;
        }

        private boolean before(int a, int b) {
            if (cost[a] != cost[b]) {
                return cost[a] < cost[b];
            }
            return count[a] != count[b] ? count[a] < count[b] : a < b;
        }

        private void sink() {
            int at = 0;
            int label = heap[0];
            while (2 * at + 1 < open) {
                int next = 2 * at + 1;
                if (next + 1 < open && before(heap[next + 1], heap[next])) {
                    next++;
                }
                if (!before(heap[next], label)) {
                    break;
                }
                heap[at] = heap[next];
                spot[heap[at]] = at;
                at = next;
            }
            heap[at] = label;
            spot[label] = at;
        }

        private void offer(int label, long newCost, long newCount) {
            int at = spot[label];
            if (at == CLOSED) {
                return;
            }
            if (at == NEW) {
                at = open;
                open++;
            } else if (newCost > cost[label] || newCost == cost[label] && newCount >= count[label]) {
                return;
            }
            cost[label] = newCost;
            count[label] = newCount;
            while (at > 0 && before(label, heap[(at - 1) / 2])) {
                heap[at] = heap[(at - 1) / 2];
                spot[heap[at]] = at;
                at = (at - 1) / 2;
            }
            heap[at] = label;
            spot[label] = at;
        }

        /** Offers all labels from which one move leads to a label. */
        private void offerBefore(int label) {
            int share = label % kinds;
            int row = label / kinds % 4;
            int heading = label / kinds / 4 % HEADINGS;
            int cell = label / kinds / PER_CELL;
            int from = Way.cellAt(cell, heading, -1);
            int shareBefore = share + (shared[cell] ? 1 : 0);
            if (from < 0 || shareBefore >= kinds || !grid.passable(from) || !grid.slopeKept(from, cell)) {
                return;
            }
            boolean onBridge = grid.bridged(from);
            int leastRow = onBridge ? 1 : 0;
            int mostRow = onBridge ? grid.most[from] : 0;
            if (row > 0) {
                leastRow = Math.max(leastRow, row - 1);
                mostRow = Math.min(mostRow, row - 1);
            }
            long newCost = cost[label] + Way.LENGTH[heading] * price[cell];
            long newCount = count[label] + 1;
            for (int h = 0; h < Way.NO_HEADING && leastRow <= mostRow; h += 3 - grid.reach) {
                if (grid.turnKept(h, heading, onBridge || row > 0)) {
                    for (int r = leastRow; r <= mostRow; r++) {
                        offer(label(from, h, r, shareBefore), newCost, newCount + (h == heading ? 0 : A_TURN));
                    }
                }
            }
            if (from == start && leastRow <= mostRow) {
                offer(label(from, Way.NO_HEADING, 0, shareBefore), newCost, newCount);
            }
        }

        /** The cells of the best way from a closed label on. */
        int[] cellsFrom(int first) {
            int moves = (int) (count[first] % A_TURN);
            int[] cells = new int[moves + 1];
            int label = first;
            cells[0] = start;
            for (int k = 1; k <= moves; k++) {
                label = nextOf(label);
                cells[k] = label / kinds / PER_CELL;
            }
            return cells;
        }

        /** Of the labels to which a best way goes on the one whose cell is the least. */
        private int nextOf(int label) {
            int share = label % kinds;
            int row = label / kinds % 4;
            int before = label / kinds / 4 % HEADINGS;
            int cell = label / kinds / PER_CELL;
            int best = -1;
            int bestCell = Way.CELLS;
            for (int h = 0; h < Way.NO_HEADING; h += 3 - grid.reach) {
                int to = Way.cellAt(cell, h, 1);
                if (to < 0 || to >= bestCell || !grid.passable(to) || !grid.slopeKept(cell, to)) {
                    continue;
                }
                int rowThere = grid.bridged(to) ? row + 1 : 0;
                int shareThere = share - (shared[to] ? 1 : 0);
                if (rowThere > 0 && rowThere > grid.most[to] || shareThere < 0
                        || !grid.turnKept(before, h, row > 0 || rowThere > 0)) {
                    continue;
                }
                int next = label(to, h, rowThere, shareThere);
                boolean turned = before != Way.NO_HEADING && before != h;
                if (spot[next] == CLOSED && cost[next] + Way.LENGTH[h] * price[to] == cost[label]
                        && count[next] + 1 + (turned ? A_TURN : 0) == count[label]) {
                    best = next;
                    bestCell = to;
                }
            }
            return best < 0 ? label : best;
        }
    }

    /** Part EARTH: cuts, pits, fills, ways, and the plan of least cost between them. */
    private static final class Earth {
        static final int MOST_CUTS = 8;
        static final int MOST_PITS = 4;
        static final int MOST_FILLS = 8;
        static final int MOST_WAYS = 6;
        static final int SOURCES = MOST_CUTS + MOST_PITS;
        static final int WEEKS = 12;
        static final int FURTHEST = 100000;
        static final int EVERY_WAY = -1;
        static final long ENDLESS = 1000000000000000L;
        /** Nodes of the flow at least cost: sources, fills, and the hub from which all sources are filled. */
        static final int HUB = SOURCES + MOST_FILLS;
        static final int NODES = HUB + 1;
        /** Nodes of the greatest flow: the spring, sources, fills' beginnings, fills' ends, weeks, the mouth. */
        static final int FILL_IN = 1 + SOURCES;
        static final int FILL_OUT = FILL_IN + MOST_FILLS;
        static final int WEEK = FILL_OUT + MOST_FILLS;
        static final int MOUTH = WEEK + WEEKS;
        static final int PIPES = MOUTH + 1;
        static final int NO_PLAN = 0;
        static final int PLANNED = 1;
        static final int CLASHED = 2;

        private final int[] size = new int[4];
        private final int[][] cut = new int[MOST_CUTS][4];
        private final int[][] pit = new int[MOST_PITS][2];
        private final int[][] fill = new int[MOST_FILLS][3];
        private final int[][] way = new int[MOST_WAYS][4];
        private final int[][] swell = {{1, 1}, {1, 1}, {1, 1}, {1, 1}};
        private final int[] unfit = new int[4];
        private final int[] most = {-1, -1, -1, -1, -1, -1, -1, -1, -1, -1, -1, -1};
        private int state = NO_PLAN;
        private int clashing;
        private final long[][] plan = new long[SOURCES][MOST_FILLS];
        private final long[][] flow = new long[SOURCES][MOST_FILLS];
        private final long[][] unit = new long[SOURCES][MOST_FILLS];
        private final long[] used = new long[SOURCES];
        /** Fills, as bits, to which no more may be changed from a source. */
        private final int[] frozen = new int[SOURCES];
        private final long[] far = new long[NODES];
        private final int[] from = new int[NODES];
        private final long[][] pipe = new long[PIPES][PIPES];
        private final int[] queue = new int[PIPES];
        private final int[] reached = new int[PIPES];

        long answer(int call, int a, int b, int c, int d) {
            switch (call) {
                case 0: return addCut(a, b, c, d);
                case 1: return addFill(a, b, c);
                case 2: return setSwell(a, b, c) ? 1 : 0;
                case 3: return setFit(a, b, c != 0) ? 1 : 0;
                case 4: return addWay(a, b, c);
                case 5: return barWay(a, b, c) ? 1 : 0;
                case 6: return addPit(a, b);
                case 7: return setMost(a, b) ? 1 : 0;
                case 8: return run(a);
                case 9: return movedPart(a, b, c);
                case 10: return costPart(a);
                case 11: return dual(a, b, c);
                case 12: return clash(a);
                case 13: return closure(a, b);
                case 14: return listed(a, b, c);
                case 15: return mass(a, b);
                case 16: return check();
                case 17: return levelOf(a, b);
                default: return NONE;
            }
        }

        private int cuts() {
            return size[0];
        }

        private int pits() {
            return size[1];
        }

        int fillCount() {
            return size[2];
        }

        int sources() {
            return size[0] + size[1];
        }

        private static boolean isMetre(int metre) {
            return metre >= 0 && metre <= FURTHEST;
        }

        private static boolean isWeek(int week) {
            return week >= 0 && week < WEEKS;
        }

        int addCut(int volume, int kind, int week, int metre) {
            if (volume < 1 || volume > 1000000 || kind < 0 || kind > 3 || !isWeek(week) || !isMetre(metre)
                    || cuts() >= MOST_CUTS) {
                return BAD;
            }
            state = NO_PLAN;
            int[] row = cut[cuts()];
            row[0] = volume;
            row[1] = kind;
            row[2] = week;
            row[3] = metre;
            return size[0]++;
        }

        int addFill(int volume, int week, int metre) {
            if (volume < 1 || volume > 1000000 || !isWeek(week) || !isMetre(metre) || fillCount() >= MOST_FILLS) {
                return BAD;
            }
            state = NO_PLAN;
            int[] row = fill[fillCount()];
            row[0] = volume;
            row[1] = week;
            row[2] = metre;
            return size[2]++;
        }

        private boolean setSwell(int kind, int above, int below) {
            if (kind < 0 || kind > 3 || above < 1 || above > 1000 || below < 1 || below > 1000) {
                return false;
            }
            state = NO_PLAN;
            swell[kind][0] = above;
            swell[kind][1] = below;
            return true;
        }

        private boolean setFit(int kind, int f, boolean on) {
            if (kind < 0 || kind > 3 || f < 0 || f >= fillCount()) {
                return false;
            }
            state = NO_PLAN;
            unfit[kind] = on ? unfit[kind] & ~(1 << f) : unfit[kind] | 1 << f;
            return true;
        }

        private long addWay(int one, int other, int cents) {
            if (!isMetre(one) || !isMetre(other) || cents < 0 || cents > 100000 || size[3] >= MOST_WAYS) {
                return BAD;
            }
            state = NO_PLAN;
            int[] row = way[size[3]];
            row[0] = one;
            row[1] = other;
            row[2] = cents;
            return size[3]++;
        }

        private boolean barWay(int w, int first, int last) {
            if (w < 0 || w >= size[3] || !isWeek(first) || !isWeek(last) || first > last) {
                return false;
            }
            state = NO_PLAN;
            for (int week = first; week <= last; week++) {
                way[w][3] |= 1 << week;
            }
            return true;
        }

        private long addPit(int metre, int cents) {
            if (!isMetre(metre) || cents < 0 || cents > 100000 || pits() >= MOST_PITS) {
                return BAD;
            }
            state = NO_PLAN;
            pit[pits()][0] = metre;
            pit[pits()][1] = cents;
            return size[1]++;
        }

        private boolean setMost(int week, int volume) {
            if (!isWeek(week) || volume < 0 || volume > 10000000) {
                return false;
            }
            state = NO_PLAN;
            most[week] = volume;
            return true;
        }

        boolean hasPlan() {
            return state == PLANNED;
        }

        int weekOfFill(int f) {
            return f >= 0 && f < fillCount() ? fill[f][1] : 0;
        }

        long planned(int s, int f) {
            return s >= 0 && s < sources() && f >= 0 && f < fillCount() ? plan[s][f] : 0;
        }

        private long gives(int source) {
            if (source >= cuts()) {
                return ENDLESS;
            }
            int[] by = swell[cut[source][1]];
            return (long) cut[source][0] * by[0] / by[1];
        }

        private int metreOf(int source) {
            return source < size[0] ? cut[source][3] : pit[source - size[0]][0];
        }

        private boolean serves(int source, int f) {
            return source >= cuts() || (unfit[cut[source][1]] >> f & 1) == 0 && cut[source][2] <= fill[f][1];
        }

        private static int apart(int a, int b) {
            return a < b ? b - a : a - b;
        }

        /** Cents of a unit from a source to a fill, with one way left out (or EVERY_WAY there). */
        long unitCost(int s, int f, int without) {
            if (s < 0 || s >= sources() || f < 0 || f >= fillCount()) {
                return 0;
            }
            int a = metreOf(s);
            int b = fill[f][2];
            int best = apart(a, b);
            for (int w = 0; w < size[3]; w++) {
                int[] row = way[w];
                if (w != without && (row[3] >> fill[f][1] & 1) == 0) {
                    int there = apart(a, row[0]) + row[2] + apart(row[1], b);
                    int back = apart(a, row[1]) + row[2] + apart(row[0], b);
                    best = Math.min(best, Math.min(there, back));
                }
            }
            return best + (s < cuts() ? 0 : pit[s - cuts()][1]);
        }

        /** Makes ready for planning: what a unit costs, - 1 where a source does not serve. */
        private void priceUnits(int without) {
            for (int s = 0; s < sources(); s++) {
                frozen[s] = 0;
                for (int f = 0; f < fillCount(); f++) {
                    unit[s][f] = serves(s, f) ? unitCost(s, f, without) : -1;
                }
            }
        }

        private long run(int steps) {
            if (sources() * fillCount() > steps) {
                throw new IllegalStateException();
            }
            priceUnits(EVERY_WAY);
            if (!weeksSuffice(-1) || !planFlow()) {
                state = CLASHED;
                findClashes();
                return 1;
            }
            preferFirst();
            for (int s = 0; s < SOURCES; s++) {
                System.arraycopy(flow[s], 0, plan[s], 0, MOST_FILLS);
            }
            state = PLANNED;
            return 0;
        }

        /** Whether the bounds of the weeks leave room for all fills, and one unit more of one of them. */
        private boolean weeksSuffice(int oneMore) {
            for (int week = 0; week < WEEKS; week++) {
                long sum = 0;
                for (int f = 0; f < fillCount(); f++) {
                    if (fill[f][1] == week) {
                        sum += fill[f][0] + (f == oneMore ? 1 : 0);
                    }
                }
                if (most[week] >= 0 && sum > most[week]) {
                    return false;
                }
            }
            return true;
        }

        /** A flow of least cost that gives each fill what it wants; false: there is none. */
        private boolean planFlow() {
            for (int s = 0; s < SOURCES; s++) {
                used[s] = 0;
                Arrays.fill(flow[s], 0);
            }
            for (int f = 0; f < fillCount(); f++) {
                long wanted = fill[f][0];
                for (int k = 0; k < 1000000 && wanted > 0; k++) {
                    if (!cheapest(HUB, SOURCES + f)) {
                        return false;
                    }
                    wanted -= push(HUB, SOURCES + f, wanted);
                }
            }
            return true;
        }

        /** Of all flows of least cost the one with most from the first source to the first fill, and so on. */
        private void preferFirst() {
            for (int s = 0; s < sources(); s++) {
                for (int f = 0; f < fillCount(); f++) {
                    if (unit[s][f] < 0) {
                        continue;
                    }
                    frozen[s] |= 1 << f;
                    for (int k = 0; k < 1000000; k++) {
                        if (!cheapest(SOURCES + f, s) || far[s] + unit[s][f] != 0) {
                            break;
                        }
                        flow[s][f] += push(SOURCES + f, s, ENDLESS);
                    }
                }
            }
        }

        /** The cheapest row of changes of the flow that moves a unit from a node to another one: whether there is one. */
        private boolean cheapest(int start, int goal) {
            Arrays.fill(far, ENDLESS);
            far[start] = 0;
            from[start] = start;
            boolean shorter = true;
            for (int round = 0; round < NODES && shorter; round++) {
                shorter = false;
                for (int s = 0; s < sources(); s++) {
                    shorter |= used[s] < gives(s) && shorten(HUB, s, 0);
                    shorter |= used[s] > 0 && shorten(s, HUB, 0);
                    for (int f = 0; f < fillCount(); f++) {
                        if (unit[s][f] >= 0 && (frozen[s] >> f & 1) == 0) {
                            shorter |= shorten(s, SOURCES + f, unit[s][f]);
                            shorter |= flow[s][f] > 0 && shorten(SOURCES + f, s, -unit[s][f]);
                        }
                    }
                }
            }
            return far[goal] < ENDLESS;
        }

        private boolean shorten(int a, int b, long cost) {
            if (far[a] >= ENDLESS || far[a] + cost >= far[b]) {
                return false;
            }
            far[b] = far[a] + cost;
            from[b] = a;
            return true;
        }

        /** Moves as much as can be (and no more than a bound) by the row of changes found last: how much. */
        private long push(int start, int goal, long bound) {
            long amount = bound;
            int node = goal;
            for (int k = 0; k < NODES && node != start; k++) {
                amount = Math.min(amount, room(from[node], node));
                node = from[node];
            }
            node = goal;
            for (int k = 0; k < NODES && node != start; k++) {
                change(from[node], node, amount);
                node = from[node];
            }
            return amount;
        }

        private long room(int a, int b) {
            if (a == HUB) {
                return gives(b) - used[b];
            }
            if (b == HUB) {
                return used[a];
            }
            return a < SOURCES ? ENDLESS : flow[b][a - SOURCES];
        }

        private void change(int a, int b, long amount) {
            if (a == HUB) {
                used[b] += amount;
            } else if (b == HUB) {
                used[a] -= amount;
            } else if (a < SOURCES) {
                flow[a][b - SOURCES] += amount;
            } else {
                flow[b][a - SOURCES] -= amount;
            }
        }

        /** Fills that are not served whole in some greatest flow: those that can give way without loss. */
        private void findClashes() {
            for (int a = 0; a < PIPES; a++) {
                Arrays.fill(pipe[a], 0);
            }
            for (int s = 0; s < sources(); s++) {
                pipe[0][1 + s] = gives(s);
                for (int f = 0; f < fillCount(); f++) {
                    pipe[1 + s][FILL_IN + f] = unit[s][f] >= 0 ? ENDLESS : 0;
                }
            }
            for (int f = 0; f < fillCount(); f++) {
                int week = fill[f][1];
                pipe[FILL_IN + f][FILL_OUT + f] = fill[f][0];
                pipe[FILL_OUT + f][WEEK + week] = fill[f][0];
                pipe[WEEK + week][MOUTH] = most[week] < 0 ? ENDLESS : most[week];
            }
            for (int k = 0; k < 1000000; k++) {
                if (!reaches(0, MOUTH)) {
                    break;
                }
                fillPipes();
            }
            clashing = 0;
            for (int f = 0; f < fillCount(); f++) {
                if (reaches(FILL_IN + f, FILL_OUT + f)) {
                    clashing |= 1 << f;
                }
            }
        }

        /** Whether more can go from one place to another one, by the fewest pipes; reached[] tells where from. */
        private boolean reaches(int start, int goal) {
            Arrays.fill(reached, -1);
            reached[start] = start;
            queue[0] = start;
            int end = 1;
            for (int at = 0; at < end && at < PIPES && reached[goal] < 0; at++) {
                int a = queue[at];
                for (int b = 0; b < PIPES; b++) {
                    if (reached[b] < 0 && pipe[a][b] > 0 && end < PIPES) {
                        reached[b] = a;
                        queue[end] = b;
                        end++;
                    }
                }
            }
            return reached[goal] >= 0;
        }

        private void fillPipes() {
            long amount = ENDLESS;
            for (int b = MOUTH, k = 0; b != 0 && k < PIPES; b = reached[b], k++) {
                amount = Math.min(amount, pipe[reached[b]][b]);
            }
            for (int b = MOUTH, k = 0; b != 0 && k < PIPES; b = reached[b], k++) {
                pipe[reached[b]][b] -= amount;
                pipe[b][reached[b]] += amount;
            }
        }

        private long movedPart(int s, int f, int part) {
            if (!hasPlan() || s < 0 || s >= sources() || f < 0 || f >= fillCount() || part < 0 || part > 1) {
                return BAD;
            }
            return part == 0 || plan[s][f] == 0 ? plan[s][f] : plan[s][f] * unitCost(s, f, EVERY_WAY);
        }

        private long costPart(int part) {
            if (!hasPlan() || part < 0 || part > 2) {
                return BAD;
            }
            long sum = 0;
            for (int s = 0; s < sources(); s++) {
                for (int f = 0; f < fillCount(); f++) {
                    long v = plan[s][f];
                    sum += part == 0 ? v * unitCost(s, f, EVERY_WAY) : part == 1 || s >= cuts() ? v : 0;
                }
            }
            return sum;
        }

        private void takeUpPlan() {
            priceUnits(EVERY_WAY);
            for (int s = 0; s < SOURCES; s++) {
                used[s] = 0;
                for (int f = 0; f < MOST_FILLS; f++) {
                    flow[s][f] = plan[s][f];
                    used[s] += plan[s][f];
                }
            }
        }

        private long dual(int side, int k, int part) {
            if (!hasPlan() || side < 0 || side > 1 || part < 0 || part > 1 || k < 0
                    || k >= (side == 0 ? cuts() : fillCount()) || side == 0 && gives(k) == 0) {
                return BAD;
            }
            takeUpPlan();
            if (side == 0 && used[k] < gives(k)) {
                return part;
            }
            boolean can = side == 0 ? cheapest(HUB, k) : weeksSuffice(k) && cheapest(HUB, SOURCES + k);
            if (!can) {
                return 0;
            }
            return part == 1 ? 1 : far[side == 0 ? k : SOURCES + k];
        }

        private long clash(int k) {
            if (state != CLASHED || k < 0) {
                return BAD;
            }
            int seen = 0;
            for (int f = 0; f < fillCount(); f++) {
                if ((clashing >> f & 1) == 1) {
                    if (seen == k) {
                        return f;
                    }
                    seen++;
                }
            }
            return BAD;
        }

        private long closure(int w, int part) {
            if (!hasPlan() || w < 0 || w >= size[3] || part < 0 || part > 1) {
                return BAD;
            }
            priceUnits(w);
            if (!planFlow()) {
                return 0;
            }
            long sum = 0;
            for (int s = 0; s < sources(); s++) {
                for (int f = 0; f < fillCount(); f++) {
                    sum += flow[s][f] * Math.max(unit[s][f], 0);
                }
            }
            return part == 1 ? 1 : sum - costPart(0);
        }

        private long listed(int week, int k, int what) {
            if (!hasPlan() || !isWeek(week) || k < 0 || what < 0 || what > 2) {
                return BAD;
            }
            int seen = 0;
            for (int s = 0; s < sources(); s++) {
                for (int f = 0; f < fillCount(); f++) {
                    if (fill[f][1] == week && plan[s][f] > 0) {
                        if (seen == k) {
                            return what == 0 ? s : what == 1 ? f : plan[s][f];
                        }
                        seen++;
                    }
                }
            }
            return BAD;
        }

        private long mass(int metre, int part) {
            if (!isMetre(metre) || part < 0 || part > 3 || part > 1 && !hasPlan()) {
                return BAD;
            }
            long sum = 0;
            for (int s = 0; s < sources(); s++) {
                boolean here = metreOf(s) <= metre;
                sum += part == 0 && here && s < cuts() ? gives(s) : 0;
                for (int f = 0; f < fillCount() && part > 1; f++) {
                    sum += here == (part == 2) && fill[f][2] <= metre == (part == 3) ? plan[s][f] : 0;
                }
            }
            for (int f = 0; f < fillCount() && part == 1; f++) {
                sum += fill[f][2] <= metre ? fill[f][0] : 0;
            }
            return sum;
        }

        long check() {
            if (!hasPlan()) {
                return BAD;
            }
            for (int s = 0; s < sources(); s++) {
                long sum = 0;
                boolean served = true;
                for (int f = 0; f < fillCount(); f++) {
                    sum += plan[s][f];
                    served &= plan[s][f] == 0 || plan[s][f] > 0 && serves(s, f);
                }
                if (!served || sum > gives(s)) {
                    return 1 + s;
                }
            }
            for (int f = 0; f < fillCount(); f++) {
                long sum = 0;
                for (int s = 0; s < sources(); s++) {
                    sum += plan[s][f];
                }
                if (sum != fill[f][0]) {
                    return 13 + f;
                }
            }
            return checkWeeks();
        }

        private long checkWeeks() {
            for (int week = 0; week < WEEKS; week++) {
                long sum = 0;
                for (int f = 0; f < fillCount(); f++) {
                    for (int s = 0; s < sources(); s++) {
                        sum += fill[f][1] == week ? plan[s][f] : 0;
                    }
                }
                if (most[week] >= 0 && sum > most[week]) {
                    return 21 + week;
                }
            }
            return 0;
        }

        private long levelOf(int k, int part) {
            if (!hasPlan() || k < 0 || k >= cuts() || part < 0 || part > 1) {
                return BAD;
            }
            long left = gives(k);
            for (int f = 0; f < fillCount() && part == 0; f++) {
                left -= plan[k][f];
            }
            return left;
        }
    }

    /** Part BEAMS: a row of beams, and what a load of one does to it, by the stiffness method in whole numbers. */
    private static final class Beams {
        static final int MOST_BEAMS = 3;
        static final int MOST_SIGNS = 50;
        static final int MOST_ROWS = 8;
        static final int NOTHING = -2;
        /** Each node has two moves: 2 i how far it is down, 2 i + 1 how far it is turned. */
        static final int MOVES = 2 * (MOST_BEAMS + 1);
        /** What loads do to the ends of a beam is whole in these parts. */
        static final int PARTS = 128;
        static final int ROOM = 160;
        static final int MOVE = 2;
        static final int REACTION = 3;

        private int beams = 1;
        /** Of each beam its length and its stiffness. */
        private final int[][] size = {{1, 1}, {1, 1}, {1, 1}};
        private final boolean[] hinged = new boolean[2 * MOST_BEAMS];
        /** Whether moves are held. */
        private final boolean[] held = new boolean[MOVES];
        private final int[] settled = new int[MOST_BEAMS + 1];
        /** Rows that are told: what, of what, its place; behind them a place for one that is only asked. */
        private final int[][] row = new int[MOST_ROWS + 1][3];
        private int rows;
        private final char[] text = new char[MOST_SIGNS];
        private int signs;
        private boolean fresh;
        private boolean loose;
        private final boolean[] looseMove = new boolean[MOVES];
        private int free;
        private final int[] moveOf = new int[MOVES];
        private long scale;
        private final long[][] force = new long[MOVES][MOVES];
        private final Big[] grid = new Big[MOVES * 2 * MOVES];
        private final Big[] point = new Big[4 * MOST_BEAMS + 1];
        private final Big[] aid = new Big[6];
        private final long[] load = new long[MOVES];
        /** Of a value of a row: what each move counts, then what counts without moves, and by what all is divided. */
        private final long[] counts = new long[MOVES + 2];
        private final Ratio told = new Ratio(ROOM);

        Beams() {
            held[0] = true;
            held[1] = true;
            for (int k = 0; k < grid.length; k++) {
                grid[k] = new Big(12);
            }
            for (int k = 0; k < point.length; k++) {
                point[k] = new Big(24);
            }
            for (int k = 0; k < aid.length; k++) {
                aid[k] = new Big(ROOM);
            }
        }

        long answer(int call, int a, int b, int c, int d) {
            switch (call) {
                case 0: return collect(a) ? 1 : 0;
                case 1: return read();
                case 2: return setMember(a, b, c) ? 1 : 0;
                case 3: return setSupport(a, b, c != 0) ? 1 : 0;
                case 4: return setHinge(a, b, c != 0) ? 1 : 0;
                case 5: return solve();
                case 6: return looseNode(a);
                case 7: return tellRow(a, b, c);
                case 8: return valueAt(a, b, c, d);
                case 9: return area(a, b, c);
                case 10: return turned(a) ? 1 : 0;
                case 11: return sumsAreOne() ? 1 : 0;
                case 12: return settle(a, b) ? 1 : 0;
                case 13: return settledMove(a, b, c, d);
                case 14: return count(a);
                default: return NONE;
            }
        }

        int beamCount() {
            return beams;
        }

        /** The length of the beam behind a place, all places counted in order; 0 behind the last one. */
        int lengthAt(int place) {
            return place >= 0 && place < 4 * beams ? size[place / 4][0] : 0;
        }

        void forgetText() {
            signs = 0;
        }

        boolean collect(int u) {
            if (u < 32 || u > 126 || signs >= MOST_SIGNS) {
                return false;
            }
            text[signs] = (char) u;
            signs++;
            return true;
        }

        private char signAt(int i) {
            return i >= 0 && i < signs ? text[i] : 0;
        }

        /** The number at a place of the text, 1 .. 12; 0: there is none. */
        private int numberAt(int i) {
            int first = signAt(i) - '0';
            int second = signAt(i + 1) - '0';
            if (first < 1 || first > 9) {
                return 0;
            }
            int v = second >= 0 && second <= 9 ? 10 * first + second : first;
            return v <= 12 ? v : 0;
        }

        private static boolean isNode(char c) {
            return c == '.' || c == 'S' || c == 'T' || c == 'F';
        }

        long read() {
            int wrong = wrongSign();
            if (wrong < 0) {
                take();
            }
            signs = 0;
            return wrong < 0 ? beams : -1 - wrong;
        }

        /** The number of the first sign that is wrong; - 1: none is. */
        private int wrongSign() {
            int i = 0;
            if (!isNode(signAt(i))) {
                return i;
            }
            i++;
            for (int beam = 0; beam < MOST_BEAMS; beam++) {
                if (i == signs && beam > 0) {
                    return -1;
                }
                i += signAt(i) == 'h' ? 1 : 0;
                if (numberAt(i) == 0) {
                    return i;
                }
                i += numberAt(i) > 9 ? 2 : 1;
                if (signAt(i) != 'x') {
                    return i;
                }
                i++;
                if (numberAt(i) == 0) {
                    return i;
                }
                i += numberAt(i) > 9 ? 2 : 1;
                i += signAt(i) == 'h' ? 1 : 0;
                if (!isNode(signAt(i))) {
                    return i;
                }
                i++;
            }
            return i == signs ? -1 : i;
        }

        private void take() {
            beams = 0;
            takeNode(0, signAt(0));
            for (int i = 1; i < signs && beams < MOST_BEAMS; i++) {
                hinged[2 * beams] = signAt(i) == 'h';
                i += hinged[2 * beams] ? 1 : 0;
                size[beams][0] = numberAt(i);
                i += numberAt(i) > 9 ? 3 : 2;
                size[beams][1] = numberAt(i);
                i += numberAt(i) > 9 ? 2 : 1;
                hinged[2 * beams + 1] = signAt(i) == 'h';
                i += hinged[2 * beams + 1] ? 1 : 0;
                beams++;
                takeNode(beams, signAt(i));
            }
            rows = 0;
            fresh = false;
        }

        private void takeNode(int node, char kind) {
            held[2 * node] = kind == 'S' || kind == 'F';
            held[2 * node + 1] = kind == 'T' || kind == 'F';
            settled[node] = 0;
        }

        private boolean setMember(int k, int newLength, int newStiff) {
            if (k < 0 || k >= beams) {
                throw new ArrayIndexOutOfBoundsException();
            }
            if (newLength < 1 || newLength > 12 || newStiff < 1 || newStiff > 12) {
                return false;
            }
            size[k][0] = newLength;
            size[k][1] = newStiff;
            fresh = false;
            return true;
        }

        private boolean setSupport(int node, int axis, boolean on) {
            if (node < 0 || node > beams) {
                throw new ArrayIndexOutOfBoundsException();
            }
            if (axis < 0 || axis > 1) {
                return false;
            }
            boolean was = held[2 * node + axis];
            held[2 * node + axis] = on;
            if (!held[2 * node]) {
                settled[node] = 0;
            }
            fresh = false;
            return was;
        }

        private boolean setHinge(int k, int end, boolean on) {
            if (k < 0 || k >= beams) {
                throw new ArrayIndexOutOfBoundsException();
            }
            if (end < 0 || end > 1) {
                return false;
            }
            boolean was = hinged[2 * k + end];
            hinged[2 * k + end] = on;
            fresh = false;
            return was;
        }

        private boolean heldInHeight(int node) {
            return node >= 0 && node <= beams && held[2 * node];
        }

        private long solve() {
            prepare();
            int sum = 0;
            for (int node = 0; node <= beams; node++) {
                sum += isLoose(node) ? 1 : 0;
            }
            return sum;
        }

        private boolean isLoose(int node) {
            return looseMove[2 * node] || looseMove[2 * node + 1];
        }

        private long looseNode(int k) {
            prepare();
            int seen = 0;
            for (int node = 0; node <= beams && k >= 0; node++) {
                if (isLoose(node)) {
                    if (seen == k) {
                        return node;
                    }
                    seen++;
                }
            }
            return BAD;
        }

        private Big cell(int r, int c) {
            return grid[r * 2 * MOVES + c];
        }

        /** Makes ready what all answers need: the forces that moves bring, which moves are loose, and the inverse. */
        private void prepare() {
            if (fresh) {
                return;
            }
            fresh = true;
            gatherForces();
            free = 0;
            for (int k = 0; k < 2 * (beams + 1); k++) {
                looseMove[k] = false;
                if (!held[k] && (k % 2 == 0 || hasStiffEnd(k / 2))) {
                    moveOf[free] = k;
                    free++;
                }
            }
            for (int r = 0; r < free; r++) {
                for (int c = 0; c < free; c++) {
                    cell(r, c).set(force[moveOf[r]][moveOf[c]]);
                    cell(r, free + c).set(r == c ? 1 : 0);
                }
            }
            invert();
        }

        private boolean hasStiffEnd(int node) {
            return node < beams && !hinged[2 * node] || node > 0 && !hinged[2 * node - 1];
        }

        /** Forces by moves of all nodes, times the scale that makes them whole. */
        private void gatherForces() {
            scale = 1;
            for (int b = 0; b < beams; b++) {
                scale = scale / common(scale, size[b][0]) * size[b][0];
            }
            scale = scale * scale * scale;
            for (int r = 0; r < MOVES; r++) {
                Arrays.fill(force[r], 0);
            }
            for (int b = 0; b < beams; b++) {
                long by = scale / (size[b][0] * size[b][0] * size[b][0]) * size[b][1];
                for (int r = 0; r < 4; r++) {
                    for (int c = 0; c < 4; c++) {
                        force[2 * b + r][2 * b + c] += by * endForce(b, r, c);
                    }
                }
            }
        }

        /**
         * What a move of an end does at an end of a beam, times length^3 by stiffness; ends' moves in the order left
         * down, left turned, right down, right turned. A hinge takes its turn, and what is stiff against bending alone.
         */
        private int endForce(int b, int r, int c) {
            int bent = 3 * shearShare(b, r) * shearShare(b, c);
            if (r % 2 == 0 || c % 2 == 0 || hinged[2 * b] || hinged[2 * b + 1]) {
                return bent;
            }
            return bent + (r == c ? 1 : -1) * size[b][0] * size[b][0];
        }

        private int shearShare(int b, int end) {
            boolean left = !hinged[2 * b];
            boolean right = !hinged[2 * b + 1];
            int stiffEnds = (left ? 1 : 0) + (right ? 1 : 0);
            switch (end) {
                case 0: return stiffEnds;
                case 1: return left ? size[b][0] : 0;
                case 2: return -stiffEnds;
                default: return right ? size[b][0] : 0;
            }
        }

        /**
         * Fraction-free elimination below and above each pivot: what is not 0 stays a minor, and each division is exact.
         * The forces come from an energy that is never negative, so a pivot of 0 has a row of 0: that move is free.
         */
        private void invert() {
            int open = 0;
            loose = false;
            aid[0].set(1);
            for (int p = 0; p < free; p++) {
                if (cell(p, p).sign == 0) {
                    loose = true;
                    open |= 1 << p;
                    looseMove[moveOf[p]] = true;
                    continue;
                }
                for (int r = 0; r < free; r++) {
                    if (r != p) {
                        eliminate(r, p);
                    }
                }
                aid[0].copy(cell(p, p));
            }
            for (int r = 0; r < free && loose; r++) {
                for (int c = 0; c < free; c++) {
                    if ((open >> c & 1) == 1 && cell(r, c).sign != 0) {
                        looseMove[moveOf[r]] = true;
                    }
                }
            }
        }

        /** Takes a pivot's row from another one; aid[0] is the pivot before. */
        private void eliminate(int r, int p) {
            aid[1].copy(cell(r, p));
            for (int c = 0; c < 2 * free; c++) {
                Big at = cell(r, c);
                boolean other = aid[1].sign != 0 && cell(p, c).sign != 0;
                if (at.sign == 0 && !other) {
                    continue;
                }
                aid[2].product(at, cell(p, p));
                if (other) {
                    aid[3].product(aid[1], cell(p, c));
                    aid[2].add(aid[3], -1);
                }
                aid[2].divide(aid[0], aid[4], aid[5]);
                at.copy(aid[4]);
            }
        }

        private long tellRow(int what, int member, int place) {
            boolean can = what == REACTION ? heldInHeight(member) && place == 0
                    : what >= 0 && what <= MOVE && member >= 0 && member < beams && place >= 0 && place <= 4;
            if (!can || rows >= MOST_ROWS) {
                return BAD;
            }
            row[rows][0] = what;
            row[rows][1] = member;
            row[rows][2] = place;
            return rows++;
        }

        private boolean isTold(int r) {
            return r >= 0 && r < rows && (row[r][0] != REACTION || heldInHeight(row[r][1]));
        }

        private static boolean inside(int place) {
            return place > 0 && place < 4;
        }

        /** What a load brings to the moves of all nodes, in parts. */
        private void setLoad(int b, int place) {
            Arrays.fill(load, 0);
            if (!inside(place)) {
                load[2 * b + place / 2] = PARTS;
                return;
            }
            for (int end = 0; end < 4; end++) {
                load[2 * b + end] = -fixedForce(b, end, place);
            }
        }

        /** What a load inside a beam does at its ends while these are held, in parts. */
        private int fixedForce(int b, int end, int place) {
            int c = 4 - place;
            int l = size[b][0];
            int shear;
            int left = 0;
            int right = 0;
            if (hinged[2 * b] && hinged[2 * b + 1]) {
                shear = 32 * c;
            } else if (hinged[2 * b + 1]) {
                shear = 48 * c - c * c * c;
                left = l * (c * c * c - 16 * c);
            } else if (hinged[2 * b]) {
                shear = 12 * c * c - c * c * c;
                right = -l * (12 * c * c - c * c * c - 32 * c);
            } else {
                shear = 24 * c * c - 4 * c * c * c;
                left = 2 * l * (c * c * c - 4 * c * c);
                right = 2 * l * c * (4 - c) * (4 - c);
            }
            return end == 0 ? -shear : end == 1 ? left : end == 2 ? shear - PARTS : right;
        }

        /** Sets counts[] for a value: what 0 .. 2 at a place of a beam, or the reaction of a node, under a load. */
        private void setCounts(int what, int member, int place, int loadBeam, int loadPlace) {
            Arrays.fill(counts, 0);
            if (what == REACTION) {
                for (int k = 0; k < MOVES; k++) {
                    counts[k] = -PARTS * force[2 * member][k];
                }
                counts[MOVES] = scale * load[2 * member];
                counts[MOVES + 1] = PARTS * scale;
                return;
            }
            boolean here = member == loadBeam && inside(loadPlace);
            long l = size[member][0];
            long cube = l * l * l;
            int behind = here ? Math.max(place - loadPlace, 0) : 0;
            if (what == 1) {
                addShear(member, here ? loadPlace : 0, 1);
                counts[MOVES] -= behind > 0 ? PARTS * cube : 0;
                counts[MOVES + 1] = PARTS * cube;
            } else if (what == 0) {
                addMoment(member, here ? loadPlace : 0, 4);
                addShear(member, here ? loadPlace : 0, place * l);
                counts[MOVES] -= PARTS * cube * l * behind;
                counts[MOVES + 1] = 4 * PARTS * cube;
            } else {
                addMoment(member, here ? loadPlace : 0, 48 * place * (4 - place) * l * l);
                addShear(member, here ? loadPlace : 0, 4 * (16 * place - place * place * place) * cube);
                long e = PARTS * cube * size[member][1];
                counts[2 * member] += e * (1536 - 384 * place);
                counts[2 * member + 2] += e * 384 * place;
                int c = 4 - loadPlace;
                counts[MOVES] += here ? PARTS * cube * cube * (4L * behind * behind * behind - place * c * c * c) : 0;
                counts[MOVES + 1] = 1536 * e;
            }
        }

        /** Adds the shear at the left end of a beam, times PARTS length^3 and a number; a load's place 0: none is inside. */
        private void addShear(int b, int loadPlace, long by) {
            for (int c = 0; c < 4; c++) {
                counts[2 * b + c] -= by * PARTS * size[b][1] * endForce(b, 0, c);
            }
            long l = size[b][0];
            counts[MOVES] -= loadPlace > 0 ? by * l * l * l * fixedForce(b, 0, loadPlace) : 0;
        }

        private void addMoment(int b, int loadPlace, long by) {
            for (int c = 0; c < 4; c++) {
                counts[2 * b + c] += by * PARTS * size[b][1] * endForce(b, 1, c);
            }
            long l = size[b][0];
            counts[MOVES] += loadPlace > 0 ? by * l * l * l * fixedForce(b, 1, loadPlace) : 0;
        }

        /** A value (what, of what, place) under a load: its upper part into v; lowerPart() tells the lower one. */
        private void value(Big v, int[] which, int loadBeam, int loadPlace) {
            setLoad(loadBeam, loadPlace);
            setCounts(which[0], which[1], which[2], loadBeam, loadPlace);
            v.set(0);
            for (int r = 0; r < free; r++) {
                if (counts[moveOf[r]] == 0) {
                    continue;
                }
                aid[1].set(0);
                for (int c = 0; c < free; c++) {
                    if (load[moveOf[c]] != 0) {
                        aid[2].product(cell(r, free + c), load[moveOf[c]]);
                        aid[1].add(aid[2], 1);
                    }
                }
                aid[2].product(aid[1], counts[moveOf[r]]);
                v.add(aid[2], 1);
            }
            aid[2].product(v, scale);
            aid[1].product(aid[0], PARTS);
            v.product(aid[1], counts[MOVES]);
            v.add(aid[2], 1);
        }

        /** The lower part of what value() told last. */
        private void lowerPart(Big v) {
            aid[1].product(aid[0], PARTS);
            v.product(aid[1], counts[MOVES + 1]);
        }

        private static long nothing(int part) {
            return part == -1 ? NOTHING : BAD;
        }

        private long valueAt(int r, int member, int place, int part) {
            prepare();
            if (!isTold(r) || loose || member < 0 || member >= beams || place < 0 || place > 4 || part < -1) {
                return nothing(part);
            }
            value(told.up, row[r], member, place);
            lowerPart(told.low);
            told.reduce();
            return told.part(part);
        }

        /** The value of a row for a load at one of all places in order, times 1,000, cut off; NONE: it is too long. */
        long thousandths(int r, int place) {
            prepare();
            if (!isTold(r) || loose || place < 0 || place > 4 * beams) {
                return NONE;
            }
            int member = Math.min(place / 4, beams - 1);
            value(told.up, row[r], member, place - 4 * member);
            lowerPart(told.low);
            told.reduce();
            long up = told.part(0);
            long low = told.part(1);
            if (told.part(2) != 0 || told.part(3) != 0 || up >= 1000000000000000L || low >= 1000000000000000L || low < 1) {
                return NONE;
            }
            return told.part(-1) * (up * 1000 / low);
        }

        private long area(int r, int sign, int part) {
            prepare();
            if (!isTold(r) || loose || sign != 1 && sign != -1 || part < -1) {
                return nothing(part);
            }
            for (int q = 0; q <= 4 * beams; q++) {
                int member = Math.min(q / 4, beams - 1);
                value(point[q], row[r], member, q - 4 * member);
                point[q].sign *= sign;
            }
            lowerPart(aid[4]);
            shrinkPoints();
            told.set(0, 1);
            for (int q = 0; q < 4 * beams; q++) {
                addPiece(point[q], point[q + 1], size[q / 4][0]);
            }
            aid[2].product(told.low, aid[4]);
            told.low.product(aid[2], 8);
            told.reduce();
            return told.part(part);
        }

        /** Divides all points and their lower part by what divides them all. */
        private void shrinkPoints() {
            aid[5].copy(aid[4]);
            for (int q = 0; q <= 4 * beams; q++) {
                if (point[q].sign != 0) {
                    aid[5].copy(told.greatestCommon(aid[5], point[q]));
                }
            }
            told.shrink(aid[4], aid[5]);
            for (int q = 0; q <= 4 * beams; q++) {
                told.shrink(point[q], aid[5]);
            }
        }

        /** Adds twice the area above 0 under a straight line, its length being that of the beam. */
        private void addPiece(Big a, Big b, int l) {
            if (a.sign <= 0 && b.sign <= 0) {
                return;
            }
            if (a.sign >= 0 && b.sign >= 0) {
                aid[1].copy(a);
                aid[1].add(b, 1);
                aid[2].set(1);
            } else {
                Big more = a.sign > 0 ? a : b;
                aid[2].copy(more);
                aid[2].add(a.sign > 0 ? b : a, -1);
                aid[1].product(more, more);
            }
            aid[3].product(aid[1], l);
            told.add(aid[3], aid[2]);
            told.reduce();
        }

        private int[] asked(int what, int member, int place) {
            int[] which = row[MOST_ROWS];
            which[0] = what;
            which[1] = member;
            which[2] = place;
            return which;
        }

        private boolean turned(int r) {
            prepare();
            if (!isTold(r) || loose || row[r][0] != MOVE) {
                return false;
            }
            for (int b = 0; b < beams; b++) {
                for (int place = 0; place <= 4; place++) {
                    value(point[0], row[r], b, place);
                    lowerPart(point[1]);
                    value(point[2], asked(MOVE, b, place), row[r][1], row[r][2]);
                    lowerPart(point[3]);
                    aid[2].product(point[0], point[3]);
                    aid[3].product(point[2], point[1]);
                    if (aid[2].compare(aid[3]) != 0) {
                        return false;
                    }
                }
            }
            return true;
        }

        boolean sumsAreOne() {
            prepare();
            if (loose) {
                return false;
            }
            for (int q = 0; q <= 4 * beams; q++) {
                int member = Math.min(q / 4, beams - 1);
                point[0].set(0);
                lowerPart(point[2]);
                for (int node = 0; node <= beams; node++) {
                    if (held[2 * node]) {
                        value(point[1], asked(REACTION, node, 0), member, q - 4 * member);
                        point[0].add(point[1], 1);
                        lowerPart(point[2]);
                    }
                }
                if (point[0].compare(point[2]) != 0) {
                    return false;
                }
            }
            return true;
        }

        private boolean settle(int node, int v) {
            if (!heldInHeight(node) || v < -1000 || v > 1000) {
                return false;
            }
            settled[node] = v;
            return true;
        }

        private long settledMove(int node, int above, int below, int part) {
            prepare();
            if (node < 0 || node > beams || above < -1000 || above > 1000 || below < 1 || below > 1000 || loose
                    || part < -1) {
                return nothing(part);
            }
            told.set(settled[node], 1);
            for (int r = 0; r < free; r++) {
                if (moveOf[r] == 2 * node) {
                    moveBySettling(r);
                }
            }
            told.times(above, below);
            told.reduce();
            return told.part(part);
        }

        /** Tells how far a free move goes when the nodes that are settled are down by that. */
        private void moveBySettling(int r) {
            aid[1].set(0);
            for (int c = 0; c < free; c++) {
                long pull = 0;
                for (int k = 0; k <= beams; k++) {
                    pull -= force[moveOf[c]][2 * k] * settled[k];
                }
                aid[2].product(cell(r, free + c), pull);
                aid[1].add(aid[2], 1);
            }
            told.up.copy(aid[1]);
            told.low.copy(aid[0]);
        }

        private long count(int what) {
            int sum = 0;
            switch (what) {
                case 0: return beams;
                case 1: return rows;
                case 2:
                    for (int k = 0; k < 2 * beams; k++) {
                        sum += hinged[k] ? 1 : 0;
                    }
                    return sum;
                case 3:
                    for (int node = 0; node <= beams; node++) {
                        sum += held[2 * node] ? 1 : 0;
                    }
                    return sum;
                case 4:
                    for (int b = 0; b < beams; b++) {
                        sum += size[b][0];
                    }
                    return sum;
                default: return BAD;
            }
        }
    }

    /** Part TRAINS: trains moved over a row of straight pieces, and the worst that they do to it. */
    private static final class Trains {
        static final int MOST_CORNERS = 14;
        static final int MOST_TRAINS = 6;
        static final int MOST_AXLES = 5;
        static final int MOST_LANES = 4;
        static final int MOST_CASES = 8;
        static final int MOST_TERMS = 6;
        static final int MOST_SIGNS = 100;
        static final int UNIT = 1000000;
        static final int NONE_YET = -1;
        static final int AT = 0;
        static final int ABOVE = 1;
        static final int BELOW = 2;

        private int corners;
        /** Of each corner its place, and its value above and below. */
        private final int[][] corner = new int[MOST_CORNERS][3];
        /** How many trains, lanes, cases there are, how many signs are collected, and how many places were tried. */
        private int trains;
        private int lanes;
        private int cases;
        private int signs;
        private int tried;
        private final int[] axles = new int[MOST_TRAINS];
        /** Of each axle how far it is behind the first one, and its load. */
        private final int[][] behind = new int[MOST_TRAINS][MOST_AXLES];
        private final int[][] load = new int[MOST_TRAINS][MOST_AXLES];
        private final int[][] gap = new int[MOST_TRAINS][2];
        private final int[][] lane = new int[MOST_LANES][2];
        private final char[] text = new char[MOST_SIGNS];
        /** Of each case how often W, P and L count, in hundredths. */
        private final int[][] counted = new int[MOST_CASES][3];
        private boolean some;
        /** Of the worst: s, way, train, s of the second one, that train; and of its run: the train, both ways or not. */
        private final int[] place = new int[7];
        private final int[] list = new int[MOST_CORNERS * MOST_AXLES + 2];
        private final int[] firstList = new int[MOST_CORNERS * MOST_AXLES];
        private boolean fresh;
        /** The worst, effects, and what all effects are divided by; areas; pieces' shares of that divisor. */
        private final Big[] number = new Big[8];
        private final Big[] share = new Big[MOST_CORNERS];
        private final Ratio told = new Ratio(64);

        Trains() {
            for (int k = 0; k < number.length; k++) {
                number[k] = new Big(64);
            }
            for (int k = 0; k < share.length; k++) {
                share[k] = new Big(16);
            }
            forgetRun();
        }

        long answer(int call, int a, int b, int c) {
            switch (call) {
                case 0: return addCorner(a, b, c) ? 1 : 0;
                case 1: return addTrain();
                case 2: return addAxle(a, b, c) ? 1 : 0;
                case 3: return setGap(a, b, c) ? 1 : 0;
                case 4: return run(a, b != 0);
                case 5: return worst(a);
                case 6: return placePart(a);
                case 7: return addLane(a, b);
                case 8: return worstOnLanes(a, b);
                case 9: return patch(a, b);
                case 10: return b == 0 || b == 1 ? stretch(a, b) : BAD;
                case 11: return stretch(a, a < 0 ? 3 : 2);
                case 12: return collect(a) ? 1 : 0;
                case 13: return readCases();
                case 14: return cases;
                case 15: return caseOf(a, b);
                case 16: return caseByRank(a);
                case 17: return between(a, b);
                case 18: return fatigue(a, b, c);
                case 19: return brake(a);
                case 20: return tried;
                case 21: return cornersAreWorst() ? 1 : 0;
                case 22: clearRow(); return 0;
                default: return NONE;
            }
        }

        private static long nothing(int part) {
            return part == -1 ? -2 : BAD;
        }

        private void forgetRun() {
            some = false;
            Arrays.fill(place, NONE_YET);
        }

        void clearRow() {
            corners = 0;
            tried = 0;
            fresh = false;
            forgetRun();
        }

        boolean addCorner(int where, int upper, int lower) {
            if (where < 0 || where > 400 || corners > 0 && where <= corner[corners - 1][AT] || upper < -UNIT || upper > UNIT
                    || lower < 1 || lower > 1000 || corners >= MOST_CORNERS) {
                return false;
            }
            corner[corners][AT] = where;
            corner[corners][ABOVE] = upper;
            corner[corners][BELOW] = lower;
            corners++;
            fresh = false;
            forgetRun();
            return true;
        }

        private long addTrain() {
            return trains < MOST_TRAINS ? trains++ : BAD;
        }

        private boolean isTrain(int train) {
            return train >= 0 && train < trains;
        }

        private boolean addAxle(int train, int further, int weight) {
            if (!isTrain(train) || axles[train] >= MOST_AXLES || weight < 0 || weight > UNIT) {
                return false;
            }
            int k = axles[train];
            if (k == 0 ? further != 0 : further < 1 || further > 60) {
                return false;
            }
            behind[train][k] = k == 0 ? 0 : behind[train][k - 1] + further;
            load[train][k] = weight;
            axles[train]++;
            forgetRun();
            return true;
        }

        private boolean setGap(int train, int least, int most) {
            if (!isTrain(train) || least < 0 || most > 300 || most < least) {
                return false;
            }
            gap[train][0] = least;
            gap[train][1] = most;
            return true;
        }

        private long addLane(int upper, int lower) {
            if (upper < 0 || upper > lower || lower < 1 || lower > 1000 || lanes >= MOST_LANES) {
                return BAD;
            }
            lane[lanes][0] = upper;
            lane[lanes][1] = lower;
            return lanes++;
        }

        private Big worstNumber() {
            return number[0];
        }

        private Big effectNumber() {
            return number[1];
        }

        private Big divisor() {
            return number[2];
        }

        /** What the value on a piece behind a corner is divided by. */
        private int pieceDivisor(int piece) {
            int lower = corner[piece][BELOW];
            if (piece + 1 >= corners) {
                return lower;
            }
            return lower * corner[piece + 1][BELOW] * (corner[piece + 1][AT] - corner[piece][AT]);
        }

        /** All values of the row at whole places are whole in parts of one divisor; here it is found. */
        private void prepare() {
            if (fresh) {
                return;
            }
            fresh = true;
            divisor().set(1);
            int pieces = Math.max(corners - 1, Math.min(corners, 1));
            for (int k = 0; k < pieces; k++) {
                number[3].copy(divisor());
                int rest = number[3].divideSmall(pieceDivisor(k));
                number[3].copy(divisor());
                divisor().product(number[3], pieceDivisor(k) / common(rest, pieceDivisor(k)));
            }
            for (int k = 0; k < pieces; k++) {
                share[k].copy(divisor());
                share[k].divideSmall(pieceDivisor(k));
            }
        }

        /** Finds the area above 0, by its upper part in number[4] and its lower one in number[5]. */
        private void prepareArea() {
            prepare();
            told.set(0, 1);
            for (int k = 0; k + 1 < corners; k++) {
                addPiece(k, (long) corner[k][ABOVE] * corner[k + 1][BELOW], (long) corner[k + 1][ABOVE] * corner[k][BELOW]);
                told.reduce();
            }
            number[4].copy(told.up);
            number[5].copy(told.low);
        }

        /** Adds the area above 0 of a piece to what is told; a and b are the values at its ends, times both lower parts. */
        private void addPiece(int k, long a, long b) {
            int[] left = corner[k];
            int[] right = corner[k + 1];
            long length = right[AT] - left[AT];
            if (a >= 0 && b >= 0) {
                told.add((a + b) * length, 2L * left[BELOW] * right[BELOW]);
            } else if (a > 0) {
                told.add((long) left[ABOVE] * left[ABOVE] * right[BELOW] * length, 2 * left[BELOW] * (a - b));
            } else if (b > 0) {
                told.add((long) right[ABOVE] * right[ABOVE] * left[BELOW] * length, 2 * right[BELOW] * (b - a));
            }
        }

        /** Adds the effect of a train that stands at s, in parts of the divisor. */
        private void addEffect(Big sum, int train, int s, boolean forward) {
            for (int k = 0; k < axles[train]; k++) {
                int p = forward ? s - behind[train][k] : s + behind[train][k];
                if (corners == 0 || p < corner[0][AT] || p > corner[corners - 1][AT]) {
                    continue;
                }
                int piece = 0;
                while (piece + 2 < corners && p > corner[piece + 1][AT]) {
                    piece++;
                }
                long v = corner[piece][ABOVE];
                if (corners > 1) {
                    v = (long) corner[piece][ABOVE] * corner[piece + 1][BELOW] * (corner[piece + 1][AT] - p)
                            + (long) corner[piece + 1][ABOVE] * corner[piece][BELOW] * (p - corner[piece][AT]);
                }
                number[3].product(share[piece], v * load[train][k]);
                sum.add(number[3], 1);
            }
        }

        /** Lists the places that are tried for a train, rising, each once: how many. */
        private int listPlaces(int train, boolean forward) {
            int count = 0;
            for (int k = 0; k < axles[train]; k++) {
                for (int c = 0; c < corners; c++) {
                    count = listOnce(count, forward ? corner[c][AT] + behind[train][k] : corner[c][AT] - behind[train][k]);
                }
            }
            return count;
        }

        /** Puts a number into the rising list, if it is not there: how many there are. */
        private int listOnce(int count, int v) {
            int i = count;
            while (i > 0 && list[i - 1] > v) {
                i--;
            }
            if (i > 0 && list[i - 1] == v || count >= list.length) {
                return count;
            }
            for (int k = count; k > i; k--) {
                list[k] = list[k - 1];
            }
            list[i] = v;
            return count + 1;
        }

        private void effect(int train, int s, boolean forward) {
            effectNumber().set(0);
            addEffect(effectNumber(), train, s, forward);
        }

        /** Whether the effect just found is the worst up to now; it is kept, if so. */
        private boolean worse() {
            if (some && effectNumber().compare(worstNumber()) <= 0) {
                return false;
            }
            worstNumber().copy(effectNumber());
            some = true;
            return true;
        }

        private long run(int train, boolean both) {
            if (!isTrain(train)) {
                return BAD;
            }
            prepare();
            forgetRun();
            int sum = 0;
            for (int way = 0; way < (both ? 2 : 1); way++) {
                int count = listPlaces(train, way == 0);
                for (int k = 0; k < count; k++) {
                    effect(train, list[k], way == 0);
                    if (worse()) {
                        place[0] = list[k];
                        place[1] = way;
                        place[2] = train;
                    }
                }
                sum += count;
            }
            place[5] = train;
            place[6] = both ? 1 : 0;
            tried += sum;
            return sum;
        }

        private long between(int trainA, int trainB) {
            if (!isTrain(trainA) || !isTrain(trainB) || corners == 0 || axles[trainA] == 0) {
                return BAD;
            }
            prepare();
            forgetRun();
            int places = listPlaces(trainA, true);
            System.arraycopy(list, 0, firstList, 0, places);
            int sum = 0;
            for (int k = 0; k < places; k++) {
                int tail = firstList[k] - behind[trainA][axles[trainA] - 1];
                int gaps = listGaps(tail, trainB);
                effect(trainA, firstList[k], true);
                number[6].copy(effectNumber());
                for (int g = 0; g < gaps; g++) {
                    effectNumber().copy(number[6]);
                    addEffect(effectNumber(), trainB, tail - list[g], true);
                    if (worse()) {
                        place[0] = firstList[k];
                        place[1] = 0;
                        place[2] = trainA;
                        place[3] = tail - list[g];
                        place[4] = trainB;
                    }
                }
                sum += gaps;
            }
            tried += sum;
            return sum;
        }

        /** Lists the gaps behind a last axle that are tried for a second train: how many. */
        private int listGaps(int tail, int train) {
            int least = gap[train][0];
            int most = gap[train][1];
            int count = listOnce(0, least);
            count = listOnce(count, most);
            for (int k = 0; k < axles[train]; k++) {
                for (int c = 0; c < corners; c++) {
                    int g = tail - corner[c][AT] - behind[train][k];
                    if (g >= least && g <= most) {
                        count = listOnce(count, g);
                    }
                }
            }
            return count;
        }

        private long worst(int part) {
            if (!some || part < -1) {
                return nothing(part);
            }
            told.up.copy(worstNumber());
            told.low.copy(divisor());
            told.reduce();
            return told.part(part);
        }

        private long placePart(int part) {
            return some && part >= 0 && part <= 4 ? place[part] : BAD;
        }

        /** What the first lanes count together, the upper (0) or lower part (1), not in least terms. */
        private long laneSum(int n, int part) {
            long up = 0;
            long low = 1;
            for (int k = 0; k < n && k < lanes; k++) {
                up = up * lane[k][1] + lane[k][0] * low;
                low *= lane[k][1];
            }
            return part == 0 ? up : low;
        }

        private long worstOnLanes(int n, int part) {
            if (!some || n < 1 || n > lanes || part < -1) {
                return nothing(part);
            }
            told.up.product(worstNumber(), laneSum(n, 0));
            told.low.product(divisor(), laneSum(n, 1));
            told.reduce();
            return told.part(part);
        }

        private long patch(int perMetre, int part) {
            if (perMetre < 0 || perMetre > UNIT || part < -1) {
                return nothing(part);
            }
            prepareArea();
            told.up.product(number[4], perMetre);
            told.low.copy(number[5]);
            told.reduce();
            return told.part(part);
        }

        /** Of the k-th stretch above 0: 0 where it begins, 1 where it ends, 2 its first corner; 3: how many there are. */
        private long stretch(int k, int what) {
            int count = 0;
            for (int c = 0; c < corners && corners > 1; c++) {
                boolean begins = c == 0 ? corner[0][ABOVE] > 0 : corner[c][ABOVE] > 0 && corner[c - 1][ABOVE] <= 0;
                if (begins && count == k && (what == 0 || what == 2)) {
                    return what == 0 ? crossing(Math.max(c - 1, 0), c) : c > 0 && corner[c - 1][ABOVE] == 0 ? c - 1 : c;
                }
                boolean ends = corner[c][ABOVE] > 0 && (c + 1 == corners || corner[c + 1][ABOVE] <= 0);
                if (ends && count == k && what == 1) {
                    return crossing(c, Math.min(c + 1, corners - 1));
                }
                count += ends ? 1 : 0;
            }
            return what == 3 ? count : BAD;
        }

        /** Where the row comes to 0 between two corners, one of which is above 0, cut off. */
        private int crossing(int one, int other) {
            long a = (long) corner[one][ABOVE] * corner[other][BELOW];
            long b = (long) corner[other][ABOVE] * corner[one][BELOW];
            if (one == other || a == b) {
                return corner[one][AT];
            }
            return corner[one][AT] + (int) ((corner[other][AT] - corner[one][AT]) * a / (a - b));
        }

        private boolean collect(int u) {
            if (u < 32 || u > 126 || signs >= MOST_SIGNS) {
                return false;
            }
            text[signs] = (char) u;
            signs++;
            return true;
        }

        private char signAt(int i) {
            return i >= 0 && i < signs ? text[i] : 0;
        }

        private static boolean isDigit(char c) {
            return c >= '0' && c <= '9';
        }

        private long readCases() {
            int wrong = wrongSign();
            if (wrong < 0) {
                takeCases();
            }
            signs = 0;
            return wrong < 0 ? cases : -1 - wrong;
        }

        /** The number of the first sign that is wrong; - 1: none is. */
        private int wrongSign() {
            int terms = 1;
            int seen = 1;
            int i = 0;
            while (i <= signs) {
                int digits = 0;
                while (digits < 4 && isDigit(signAt(i))) {
                    digits++;
                    i++;
                }
                char letter = signAt(i);
                if (digits == 0 || letter != 'W' && letter != 'P' && letter != 'L') {
                    return i;
                }
                i++;
                if (i == signs) {
                    return -1;
                }
                char sign = signAt(i);
                terms = sign == ';' ? 1 : terms + 1;
                seen += sign == ';' ? 1 : 0;
                if (sign != ';' && sign != '+' && sign != '-' || terms > MOST_TERMS || seen > MOST_CASES) {
                    return i;
                }
                i++;
            }
            return signs;
        }

        private void takeCases() {
            cases = 1;
            Arrays.fill(counted[0], 0);
            int sign = 1;
            int v = 0;
            for (int i = 0; i < signs; i++) {
                char c = text[i];
                if (isDigit(c)) {
                    v = 10 * v + c - '0';
                } else if (c == ';' && cases < MOST_CASES) {
                    Arrays.fill(counted[cases], 0);
                    cases++;
                    sign = 1;
                } else if (c == '+' || c == '-') {
                    sign = c == '+' ? 1 : -1;
                } else {
                    counted[cases - 1][c == 'W' ? 0 : c == 'P' ? 1 : 2] += sign * v;
                    v = 0;
                }
            }
        }

        /** The upper part of a case into a number; all cases have one lower part, told by caseDivisor(). */
        private void caseNumber(int k, Big sum) {
            long laneUp = lanes == 0 ? 0 : laneSum(lanes, 0);
            long laneLow = laneSum(lanes, 1);
            sum.set(0);
            if (some) {
                number[3].product(worstNumber(), number[5]);
                sum.product(number[3], counted[k][0] * laneLow + counted[k][2] * laneUp);
            }
            number[3].product(number[4], divisor());
            number[7].product(number[3], counted[k][1] * laneLow);
            sum.add(number[7], 1);
        }

        private void caseDivisor(Big low) {
            number[3].product(divisor(), number[5]);
            low.product(number[3], 100 * laneSum(lanes, 1));
        }

        private long caseOf(int k, int part) {
            if (k < 0 || k >= cases || part < -1) {
                return nothing(part);
            }
            prepareArea();
            caseNumber(k, told.up);
            caseDivisor(told.low);
            told.reduce();
            return told.part(part);
        }

        private long caseByRank(int rank) {
            if (rank < 0 || rank >= cases) {
                return BAD;
            }
            prepareArea();
            for (int k = 0; k < cases; k++) {
                caseNumber(k, number[6]);
                int ahead = 0;
                for (int other = 0; other < cases; other++) {
                    caseNumber(other, number[1]);
                    int more = number[1].compare(number[6]);
                    ahead += more > 0 || more == 0 && other < k ? 1 : 0;
                }
                if (ahead == rank) {
                    return k;
                }
            }
            return BAD;
        }

        /** How many places are tried for a train forward; BAD: there is none such. */
        int forwardPlaces(int train) {
            return isTrain(train) ? listPlaces(train, true) : BAD;
        }

        /** The effect of a train forward at its k-th place into what is told: whether there is one. */
        private boolean tellEffect(int train, int k) {
            prepare();
            if (k < 0 || k >= forwardPlaces(train)) {
                return false;
            }
            effect(train, list[k], true);
            told.up.copy(effectNumber());
            told.low.copy(divisor());
            told.reduce();
            return true;
        }

        private long fatigue(int train, int k, int part) {
            return part >= -1 && tellEffect(train, k) ? told.part(part) : nothing(part);
        }

        /** The same effect cut off to a whole number; NONE: it can not be told in so few parts. */
        long wholeEffect(int train, int k) {
            if (!tellEffect(train, k) || told.part(2) != 0 || told.part(3) != 0 || told.part(1) < 1) {
                return NONE;
            }
            return told.part(-1) * (told.part(0) / told.part(1));
        }

        private long brake(int train) {
            if (!isTrain(train)) {
                return BAD;
            }
            int sum = 0;
            for (int k = 0; k < axles[train]; k++) {
                sum += load[train][k];
            }
            return sum / 4;
        }

        boolean cornersAreWorst() {
            int train = place[5];
            if (!some || !isTrain(train)) {
                return false;
            }
            prepare();
            for (int way = 0; way <= place[6]; way++) {
                int first = way == 0 ? 0 : -300;
                for (int s = first; s <= first + 700; s++) {
                    effect(train, s, way == 0);
                    if (effectNumber().sign != 0 && effectNumber().compare(worstNumber()) > 0) {
                        return false;
                    }
                }
            }
            return true;
        }
    }

    /** Part STRESS: a row of stresses, its turns and rests, and what classes of details bear of them. */
    private static final class Stress {
        static final int MOST_VALUES = 300;
        static final int CLASSES = 8;
        static final int MOST_LINES = 4;
        static final int MOST_MENDS = 20;
        static final int MOST_YEARS = 30;
        static final int LIMIT = 1000000;
        static final int NOTHING = -2;
        static final int LIMBS = 12;
        static final int LAST_YEAR = 100000;

        private final int[] row = new int[MOST_VALUES];
        private int values;
        private final int[] rest = new int[MOST_VALUES];
        private int rests;
        /** Of each turn where it began, where it ended, and how many values there were. */
        private final int[][] turn = new int[MOST_VALUES / 2][3];
        private int turns;
        private final int[] anew = new int[MOST_VALUES];
        private final int[][] range = new int[CLASSES][MOST_LINES];
        private final int[][] cycles = new int[CLASSES][MOST_LINES];
        private final int[] lines = new int[CLASSES];
        private final int[] cutOff = new int[CLASSES];
        /** HOT above and below, the cents of an inspection and of a year squared, and how often the row comes. */
        private final int[] hot = {1, 1};
        private final int[] cents = new int[2];
        private int repeats = 1;
        private final int[][] history = new int[MOST_MENDS][4];
        private int mends;
        private double crackFrom;
        private int crackSteps;
        private final long[] least = new long[MOST_YEARS + 1];
        private final int[] fewest = new int[MOST_YEARS + 1];
        private final Ratio told = new Ratio(32);
        private final Big worn = new Big(32);

        long answer(int call, int a, int b, int c) {
            switch (call) {
                case 0: return feed(a) ? 1 : 0;
                case 1: return turns;
                case 2: return turnPart(a, b);
                case 3: return a >= 0 && a < rests ? rest[a] : NOTHING;
                case 4: return rests;
                case 5: return sameAnew() ? 1 : 0;
                case 6: return addLine(a, b, c) ? 1 : 0;
                case 7: return setCutOff(a, b) ? 1 : 0;
                case 8: return setHot(a, b) ? 1 : 0;
                case 9: return a >= 0 && a < CLASSES ? shares(a, a, 1, b) : BAD;
                case 10: return a >= 1 && a <= 4 ? shares(0, a - 1, 1, b) : BAD;
                case 11: return setRepeats(a) ? 1 : 0;
                case 12: return shares(0, 3, repeats, a);
                case 13: return years(a, b);
                case 14: return span(a);
                case 15: return bolt(a);
                case 16: return setCost(a, b) ? 1 : 0;
                case 17: return inspect(a);
                case 18: return mend(a) ? 1 : 0;
                case 19: return a >= 0 && a < mends && b >= 0 && b < 4 ? history[a][b] : BAD;
                default: return NONE;
            }
        }

        private static int apart(int a, int b) {
            return a < b ? b - a : a - b;
        }

        boolean feed(int v) {
            if (v < -LIMIT || v > LIMIT || values >= MOST_VALUES) {
                return false;
            }
            row[values] = v;
            values++;
            rests = addPoint(rest, rests, v);
            while (turns < turn.length && closesTurn(rest, rests)) {
                turn[turns][0] = rest[rests - 3];
                turn[turns][1] = rest[rests - 2];
                turn[turns][2] = values;
                turns++;
                rests = dropTurn(rest, rests);
            }
            return true;
        }

        /** Adds a value to points, of which there are count: how many there are then. */
        private static int addPoint(int[] points, int count, int v) {
            if (count > 0 && points[count - 1] == v) {
                return count;
            }
            if (count > 1 && points[count - 1] > points[count - 2] == v > points[count - 1]) {
                points[count - 1] = v;
                return count;
            }
            if (count < points.length) {
                points[count] = v;
                return count + 1;
            }
            return count;
        }

        private static boolean closesTurn(int[] points, int count) {
            if (count < 4) {
                return false;
            }
            int middle = apart(points[count - 3], points[count - 2]);
            return middle <= apart(points[count - 4], points[count - 3])
                    && middle <= apart(points[count - 2], points[count - 1]);
        }

        /** Takes the last but two and the last but one of the points away: how many there are then. */
        private static int dropTurn(int[] points, int count) {
            points[count - 3] = points[count - 1];
            return count - 2;
        }

        boolean sameAnew() {
            int count = 0;
            int found = 0;
            for (int k = 0; k < values; k++) {
                count = addPoint(anew, count, row[k]);
                while (count > 3 && closesTurn(anew, count)) {
                    if (found >= turns || turn[found][0] != anew[count - 3] || turn[found][1] != anew[count - 2]
                            || turn[found][2] != k + 1) {
                        return false;
                    }
                    found++;
                    count = dropTurn(anew, count);
                }
            }
            boolean same = found == turns && count == rests;
            for (int k = 0; k < count && same; k++) {
                same = anew[k] == rest[k];
            }
            return same;
        }

        private int turnRange(int k) {
            return apart(turn[k][0], turn[k][1]);
        }

        private int halfRange(int k) {
            return apart(rest[k], rest[k + 1]);
        }

        private long turnPart(int k, int what) {
            if (k < 0 || k >= turns) {
                return BAD;
            }
            switch (what) {
                case 0: return turnRange(k);
                case 1: return Math.min(turn[k][0], turn[k][1]);
                case 2: return Math.max(turn[k][0], turn[k][1]);
                case 3: return turn[k][1] > turn[k][0] ? 1 : 0;
                case 4: return turn[k][2];
                default: return BAD;
            }
        }

        private boolean addLine(int cls, int width, int count) {
            if (cls < 0 || cls >= CLASSES || width < 1 || width > 2 * LIMIT || count < 1 || count > LIMIT
                    || lines[cls] >= MOST_LINES) {
                return false;
            }
            int k = lines[cls];
            if (k > 0 && (width >= range[cls][k - 1] || count <= cycles[cls][k - 1])) {
                return false;
            }
            range[cls][k] = width;
            cycles[cls][k] = count;
            lines[cls]++;
            return true;
        }

        private boolean setCutOff(int cls, int width) {
            if (cls < 0 || cls >= CLASSES || width < 0 || width > 2 * LIMIT) {
                return false;
            }
            cutOff[cls] = width;
            return true;
        }

        private boolean setHot(int above, int below) {
            if (above < 1 || above > 1000 || below < 1 || below > above) {
                return false;
            }
            hot[0] = above;
            hot[1] = below;
            return true;
        }

        private boolean setRepeats(int n) {
            if (n < 1 || n > LIMIT) {
                return false;
            }
            repeats = n;
            return true;
        }

        private boolean setCost(int kind, int price) {
            if (kind < 0 || kind > 1 || price < 0 || price > LIMIT) {
                return false;
            }
            cents[kind] = price;
            return true;
        }

        /** The line of a class by which it bears a range; - 1: it bears that without end. */
        private int bears(int cls, int width) {
            int last = lines[cls] - 1;
            long hotWidth = (long) width * hot[0] / hot[1];
            if (last < 0 || hotWidth <= cutOff[cls] || hotWidth < range[cls][last]) {
                return -1;
            }
            while (last > 0 && range[cls][last] < hotWidth) {
                last--;
            }
            return last;
        }

        /** Makes the sum of the shares of some classes, so often, what is told. */
        private void sumShares(int first, int last, int times) {
            told.set(0, 1);
            for (int cls = first; cls <= last; cls++) {
                for (int line = 0; line < lines[cls]; line++) {
                    long halves = 0;
                    for (int k = 0; k < turns; k++) {
                        halves += bears(cls, turnRange(k)) == line ? 2 : 0;
                    }
                    for (int k = 0; k + 1 < rests; k++) {
                        halves += bears(cls, halfRange(k)) == line ? 1 : 0;
                    }
                    if (halves > 0) {
                        told.add(halves * times, 2L * cycles[cls][line]);
                        told.reduce();
                    }
                }
            }
        }

        private long shares(int first, int last, int times, int part) {
            if (part < 0 || part >= 2 * LIMBS) {
                return BAD;
            }
            sumShares(first, last, times);
            return part < LIMBS ? Ratio.limb32(told.up, part) : Ratio.limb32(told.low, part - LIMBS);
        }

        private long years(int cls, int perYear) {
            if (cls < 0 || cls >= CLASSES || perYear < 1 || perYear > 1000000000) {
                return BAD;
            }
            sumShares(cls, cls, 1);
            int low = 0;
            int high = LAST_YEAR;
            for (int k = 0; k < 20 && low < high; k++) {
                int middle = (low + high + 1) / 2;
                worn.product(told.up, (long) middle * perYear);
                if (worn.compare(told.low) < 0) {
                    low = middle;
                } else {
                    high = middle - 1;
                }
            }
            return low;
        }

        private long span(int end) {
            if (values == 0 || end < 0 || end > 1) {
                return NOTHING;
            }
            int found = row[0];
            for (int k = 1; k < values; k++) {
                found = end == 0 ? Math.min(found, row[k]) : Math.max(found, row[k]);
            }
            return found;
        }

        private long bolt(int n) {
            if (n < 0) {
                return BAD;
            }
            int halves = 0;
            for (int k = 0; k < turns; k++) {
                halves += turnRange(k) >= n ? 2 : 0;
            }
            for (int k = 0; k + 1 < rests; k++) {
                halves += halfRange(k) >= n ? 1 : 0;
            }
            return halves / 2;
        }

        /** From the end back: what is least from each year on; then forward by the earliest years that keep to that. */
        private long inspect(int n) {
            if (n < 1 || n > MOST_YEARS) {
                return BAD;
            }
            for (int year = n - 1; year >= 0; year--) {
                least[year] = squared(n - year);
                fewest[year] = 0;
                for (int next = year + 1; next < n; next++) {
                    long cost = least[next] + cents[0] + squared(next - year);
                    int count = fewest[next] + 1;
                    if (cost < least[year] || cost == least[year] && count < fewest[year]) {
                        least[year] = cost;
                        fewest[year] = count;
                    }
                }
            }
            long years = 0;
            int year = 0;
            for (int next = 1; next < n; next++) {
                if (least[next] + cents[0] + squared(next - year) == least[year] && fewest[next] + 1 == fewest[year]) {
                    years |= 1L << next;
                    year = next;
                }
            }
            return years;
        }

        private long squared(int gap) {
            return (long) gap * gap * cents[1];
        }

        private boolean mend(int year) {
            if (year < 0 || year > 10000 || mends >= MOST_MENDS || mends > 0 && year < history[mends - 1][0]) {
                return false;
            }
            int[] line = history[mends];
            line[0] = year;
            line[1] = turns;
            line[2] = rests;
            for (int k = 0; k < turns; k++) {
                line[3] = Math.max(line[3], turnRange(k));
            }
            mends++;
            values = 0;
            rests = 0;
            turns = 0;
            return true;
        }

        double bornBetween(int cls, double width) {
            int count = cls < 0 || cls >= CLASSES ? 0 : lines[cls];
            if (count == 0 || !(width >= range[cls][count - 1])) {
                return -1;
            }
            if (width >= range[cls][0]) {
                return cycles[cls][0];
            }
            int below = 1;
            while (below < count - 1 && width < range[cls][below]) {
                below++;
            }
            double upper = range[cls][below - 1];
            double difference = cycles[cls][below] - cycles[cls][below - 1];
            return cycles[cls][below - 1] + difference * (upper - width) / (upper - range[cls][below]);
        }

        private double rate() {
            double sum = 0.0;
            for (int k = 0; k < turns; k++) {
                double part = turnRange(k) / 1000000.0;
                sum += part * part;
            }
            for (int k = 0; k + 1 < rests; k++) {
                double part = halfRange(k) / 1000000.0;
                sum += 0.5 * (part * part);
            }
            return sum;
        }

        int yearsToGrow(double from, double to, int steps) {
            if (!(from > 0 && from < to && to < LIMIT) || steps < 1 || steps > 100) {
                return BAD;
            }
            crackFrom = from;
            crackSteps = steps;
            double growth = rate() / steps;
            double size = from;
            for (int year = 1; year <= 100; year++) {
                for (int k = 0; k < steps; k++) {
                    size = size + size * growth;
                }
                if (size >= to) {
                    return year;
                }
            }
            return BAD;
        }

        double sizeBehind(int year) {
            if (crackSteps == 0 || year < 0 || year > 100) {
                return -1;
            }
            double growth = rate() / crackSteps;
            double size = crackFrom;
            for (int k = 0; k < year * crackSteps; k++) {
                size = size + size * growth;
            }
            return size;
        }
    }

    /** Part SIGNALS: a crossing as a machine by seconds, and the proof over all its states. */
    private static final class Signals {
        static final int MOST_GROUPS = 6;
        static final int MOST_PLANS = 3;
        static final int MOST_PHASES = 5;
        static final int MOST_SIGNS = 60;
        static final int MOST_TOLD = 60;
        static final int MOST_STATES = 400;
        static final int MOST_EVENTS = 1 + MOST_GROUPS + MOST_PLANS;
        static final int LONGEST_SHOWN = 31;
        static final int LONGEST_HIDDEN = 15;
        static final int NOTHING = -2;
        /** Places of a machine's row of numbers; its ages stand behind them. */
        static final int PLAN = 0;
        static final int PHASE = 1;
        static final int TIME = 2;
        static final int CLEARING = 3;
        static final int NEXT_PLAN = 4;
        static final int NEXT_PHASE = 5;
        static final int WANTED = 6;
        static final int WAITING = 7;
        static final int AGES = 8;
        static final int NUMBERS = AGES + MOST_GROUPS;
        /** Slots of the table by which states are found: more than twice the states, a power of two. */
        static final int SLOTS = 1024;
        static final int NOT_PROVED = -1;
        static final int FAULTY = 0;
        static final int SOUND = 1;
        static final int TOO_MANY = 2;

        private int groups = 1;
        private final int[] clashes = new int[MOST_GROUPS];
        private final int[][] clear = new int[MOST_GROUPS][MOST_GROUPS];
        private final int[] least = new int[MOST_GROUPS];
        private final int[] most = new int[MOST_GROUPS];
        private int plans;
        private final int[] phases = new int[MOST_PLANS];
        /** Of each phase its groups as bits, its least and its most time; the plan behind the last one is being read. */
        private final int[][] phase = new int[MOST_PLANS + 1][3 * MOST_PHASES];
        private final char[] text = new char[MOST_SIGNS];
        private int signs;
        private final int[][] told = new int[MOST_TOLD][2];
        private int toldCount;
        private final int[] machine = new int[NUMBERS];
        private final int[] probe = new int[NUMBERS];
        private int seconds;
        private int proof = NOT_PROVED;
        private int states;
        /** The states found; behind all there may be, the one behind the fault that was met. */
        private final long[] state = new long[MOST_STATES + 1];
        /** Of each state from which one, and by which event, it was found; then where each event leads. */
        private final int[][] found = new int[MOST_STATES][2 + MOST_EVENTS];
        private final int[] slot = new int[SLOTS];
        /** The states on the row to a fault, or how long a group can wait from each state on. */
        private final int[] way = new int[MOST_STATES];
        /** How many states are on that row, the event behind it, and its fault. */
        private final int[] last = new int[3];

        Signals() {
            clearAll(1);
        }

        long answer(int call, int a, int b, int c) {
            switch (call) {
                case 0: begin(a); return 0;
                case 1: return setClash(a, b, c) ? 1 : 0;
                case 2: return setTime(least, a, b, 15) ? 1 : 0;
                case 3: return setTime(most, a, b, LONGEST_SHOWN) ? 1 : 0;
                case 4: return collect(a) ? 1 : 0;
                case 5: return read();
                case 6: return plans;
                case 7: return a >= 0 && a < groups && tell(b, 1 + a) ? 1 : 0;
                case 8: return a >= 0 && a < plans && tell(b, 1 + groups + a) ? 1 : 0;
                case 9: return hasPlan() ? nextSecond() : BAD;
                case 10: return toldOf(a);
                case 11: return hasPlan() && a >= 0 && a < groups ? isShown(a) ? 1 : 0 : BAD;
                case 12: return prove(a);
                case 13: return states;
                case 14: return rowOfFault(a, b);
                case 15: return proof == SOUND && a >= 0 && a < groups ? longest(a) : NOTHING;
                case 16: return ring(a);
                case 17: return allAnswered() ? 1 : 0;
                case 18: return same(a) ? 1 : 0;
                case 19: return clearingTime(a, b, c);
                default: return NONE;
            }
        }

        private void begin(int count) {
            if (count < 0) {
                throw new NegativeArraySizeException();
            }
            if (count < 1 || count > MOST_GROUPS) {
                throw new IllegalArgumentException();
            }
            clearAll(count);
        }

        private void clearAll(int count) {
            groups = count;
            for (int g = 0; g < MOST_GROUPS; g++) {
                clashes[g] = 0;
                Arrays.fill(clear[g], 0);
                least[g] = 1;
                most[g] = LONGEST_SHOWN;
            }
            plans = 0;
            signs = 0;
            restart();
        }

        /** What was proved and told is gone, and the machine is as at first. */
        private void restart() {
            toldCount = 0;
            seconds = 0;
            forgetProof();
            setFirst(machine);
        }

        private void forgetProof() {
            proof = NOT_PROVED;
            states = 0;
        }

        private void setFirst(int[] m) {
            Arrays.fill(m, 0);
            for (int g = 0; g < groups; g++) {
                m[AGES + g] = plans > 0 && (phase[0][0] >> g & 1) == 1 ? 0 : LONGEST_HIDDEN;
            }
        }

        private void testGroup(int g) {
            if (g < 0 || g >= groups) {
                throw new ArrayIndexOutOfBoundsException();
            }
        }

        private boolean setClash(int a, int b, int time) {
            testGroup(a);
            testGroup(b);
            if (a < 0 || a >= groups || b < 0 || b >= groups || a == b || time < 0 || time > 15) {
                return false;
            }
            clashes[a] |= 1 << b;
            clashes[b] |= 1 << a;
            clear[a][b] = time;
            restart();
            return true;
        }

        private boolean setTime(int[] times, int g, int time, int limit) {
            testGroup(g);
            if (g < 0 || g >= groups || time < 1 || time > limit) {
                return false;
            }
            times[g] = time;
            restart();
            return true;
        }

        private boolean collect(int u) {
            if (u < 32 || u > 126 || signs >= MOST_SIGNS) {
                return false;
            }
            text[signs] = (char) u;
            signs++;
            return true;
        }

        private char signAt(int i) {
            return i >= 0 && i < signs ? text[i] : 0;
        }

        /** How many digits stand at a place of the text, 0 in front being none. */
        private int digitsAt(int i) {
            int end = i;
            while (end < signs && signAt(end) >= '0' && signAt(end) <= '9') {
                end++;
            }
            return signAt(i) == '0' ? 0 : end - i;
        }

        /** The number at a place of the text; 0: there is none, or it is not least .. most. */
        private int numberAt(int i, int lowest, int highest) {
            int digits = digitsAt(i);
            int v = digits > 2 ? highest + 1 : 0;
            for (int k = i; k < i + digits && v <= highest; k++) {
                v = 10 * v + signAt(k) - '0';
            }
            return v >= lowest && v <= highest ? v : 0;
        }

        private long read() {
            int wrong = takePlan(phase[plans]);
            int length = signs;
            signs = 0;
            if (wrong >= 0) {
                return -1 - wrong;
            }
            if (plans >= MOST_PLANS) {
                return -1 - length;
            }
            phases[plans] = -wrong;
            plans++;
            restart();
            return -wrong;
        }

        /** Reads the text into a plan: less the number of its phases, or the number of the first wrong sign. */
        private int takePlan(int[] plan) {
            int i = 0;
            for (int count = 0; count < MOST_PHASES; count++) {
                int bits = 0;
                int g = signAt(i) - 'A';
                while (i < signs && g >= 0 && g < groups && bits >> g == 0) {
                    bits |= 1 << g;
                    i++;
                    g = signAt(i) - 'A';
                }
                int shortest = numberAt(i, 1, 15);
                if (bits == 0 || shortest == 0) {
                    return i;
                }
                i += digitsAt(i);
                if (signAt(i) != '-') {
                    return i;
                }
                i++;
                int longest = numberAt(i, shortest, LONGEST_SHOWN);
                if (longest == 0) {
                    return i;
                }
                i += digitsAt(i);
                plan[3 * count] = bits;
                plan[3 * count + 1] = shortest;
                plan[3 * count + 2] = longest;
                if (i == signs) {
                    return -1 - count;
                }
                if (signAt(i) != ';' || count + 1 == MOST_PHASES) {
                    return i;
                }
                i++;
            }
            return i;
        }

        private boolean tell(int second, int event) {
            if (second <= seconds || toldCount >= MOST_TOLD || eventOf(second) != 0) {
                return false;
            }
            told[toldCount][0] = second;
            told[toldCount][1] = event;
            toldCount++;
            return true;
        }

        private int eventOf(int second) {
            for (int k = 0; k < toldCount; k++) {
                if (told[k][0] == second) {
                    return told[k][1];
                }
            }
            return 0;
        }

        boolean hasPlan() {
            return plans > 0;
        }

        int groups() {
            return groups;
        }

        boolean isShown(int g) {
            return hasPlan() && g >= 0 && (shownBy(machine) >> g & 1) == 1;
        }

        private int bitsOf(int plan, int number) {
            return phase[plan][3 * number];
        }

        /** The groups that are shown: while it clears, those of both phases. */
        private int shownBy(int[] m) {
            int bits = bitsOf(m[PLAN], m[PHASE]);
            return m[CLEARING] > 0 ? bits & bitsOf(m[NEXT_PLAN], m[NEXT_PHASE]) : bits;
        }

        int nextSecond() {
            seconds++;
            return goOn(machine, eventOf(seconds));
        }

        /** A second of a machine with an event: its fault. */
        private int goOn(int[] m, int event) {
            int shown = shownBy(m);
            if (event > groups && event - 1 - groups < plans) {
                m[WANTED] = event - 1 - groups;
            } else if (event > 0 && event <= groups) {
                m[WAITING] |= 1 << event - 1 & ~shown;
            }
            for (int g = 0; g < groups; g++) {
                m[AGES + g] = Math.min(m[AGES + g] + 1, (shown >> g & 1) == 1 ? LONGEST_SHOWN : LONGEST_HIDDEN);
            }
            int began = 0;
            boolean early = false;
            if (m[CLEARING] > 0) {
                m[CLEARING]--;
                began = m[CLEARING] == 0 ? beginPhase(m) : 0;
            } else if (endsNow(m)) {
                early = endPhase(m);
                began = m[CLEARING] == 0 ? beginPhase(m) : 0;
            }
            return faultOf(m, began, early);
        }

        /** Lets T be one more; whether the phase ends then, with what comes noted if so. */
        private boolean endsNow(int[] m) {
            m[TIME] = Math.min(m[TIME] + 1, LONGEST_SHOWN);
            int[] plan = phase[m[PLAN]];
            int at = 3 * m[PHASE];
            boolean other = m[WANTED] != m[PLAN];
            boolean called = (m[WAITING] & ~plan[at]) != 0;
            if (m[TIME] < plan[at + 2] && !(m[TIME] >= plan[at + 1] && (called || other))) {
                return false;
            }
            int count = phases[m[PLAN]];
            int next = m[PHASE] + 1 < count ? m[PHASE] + 1 : 0;
            if (other) {
                next = 0;
            } else {
                for (int k = 0, number = next; k < count; k++) {
                    if ((plan[3 * number] & m[WAITING]) != 0) {
                        next = number;
                        break;
                    }
                    number = number + 1 < count ? number + 1 : 0;
                }
            }
            if (!other && next == m[PHASE]) {
                return false;
            }
            m[NEXT_PLAN] = m[WANTED];
            m[NEXT_PHASE] = next;
            return true;
        }

        /** Ends the phase; whether a group ended before its least time. */
        private boolean endPhase(int[] m) {
            int old = bitsOf(m[PLAN], m[PHASE]);
            int coming = bitsOf(m[NEXT_PLAN], m[NEXT_PHASE]);
            boolean early = false;
            int time = 0;
            for (int a = 0; a < groups; a++) {
                if (!has(old & ~coming, a)) {
                    continue;
                }
                early |= m[AGES + a] < least[a];
                m[AGES + a] = 0;
                for (int b = 0; b < groups; b++) {
                    if (has(coming & ~old & clashes[a], b)) {
                        time = Math.max(time, clear[a][b]);
                    }
                }
            }
            m[CLEARING] = time;
            return early;
        }

        /** Begins the phase that comes: the groups that were not shown, as bits. */
        private int beginPhase(int[] m) {
            int old = bitsOf(m[PLAN], m[PHASE]);
            int coming = bitsOf(m[NEXT_PLAN], m[NEXT_PHASE]);
            m[PLAN] = m[NEXT_PLAN];
            m[PHASE] = m[NEXT_PHASE];
            m[NEXT_PLAN] = 0;
            m[NEXT_PHASE] = 0;
            m[TIME] = 0;
            m[WAITING] &= ~coming;
            for (int g = 0; g < groups; g++) {
                if (has(coming & ~old, g)) {
                    m[AGES + g] = 0;
                }
            }
            return coming & ~old;
        }

        private static boolean has(int bits, int g) {
            return (bits >> g & 1) == 1;
        }

        private int faultOf(int[] m, int began, boolean early) {
            int shown = shownBy(m);
            boolean soon = false;
            boolean tooLong = false;
            for (int a = 0; a < groups; a++) {
                if (has(shown, a)) {
                    if ((clashes[a] & shown) != 0) {
                        return 1;
                    }
                    tooLong |= m[AGES + a] > most[a] && (clashes[a] & m[WAITING]) != 0;
                    continue;
                }
                for (int b = 0; b < groups; b++) {
                    soon |= has(began & clashes[a], b) && m[AGES + a] < clear[a][b];
                }
            }
            return soon ? 2 : early ? 3 : tooLong ? 4 : 0;
        }

        private long toldOf(int which) {
            if (!hasPlan() || which < 0 || which >= 9 + groups) {
                return BAD;
            }
            switch (which) {
                case 0: return seconds;
                case 1: return machine[PLAN];
                case 2: return machine[PHASE];
                case 3: return machine[TIME];
                case 4: return machine[CLEARING];
                case 5: return machine[WANTED];
                case 6: return machine[WAITING];
                case 7: return shownBy(machine);
                case 8: return numberOf(pack(machine));
                default: return machine[AGES + which - 9];
            }
        }

        /** All of a machine in one number: each part has its bits. */
        private static long pack(int[] m) {
            long all = 0;
            for (int k = 0; k < NUMBERS; k++) {
                all = all << bitsFor(k) | m[k];
            }
            return all;
        }

        private static void unpack(long all, int[] m) {
            long left = all;
            for (int k = NUMBERS - 1; k >= 0; k--) {
                m[k] = (int) (left & (1 << bitsFor(k)) - 1);
                left >>= bitsFor(k);
            }
        }

        private static int bitsFor(int k) {
            switch (k) {
                case PLAN: case NEXT_PLAN: case WANTED: return 2;
                case PHASE: case NEXT_PHASE: return 3;
                case CLEARING: return 4;
                case WAITING: return 6;
                default: return 5;
            }
        }

        private static int slotOf(long all) {
            return (int) (all * 0x9E3779B97F4A7C15L >>> 54);
        }

        /** The number of a state among those found; BAD: it is none of them. */
        private int numberOf(long all) {
            int at = slotOf(all);
            for (int k = 0; k < SLOTS && states > 0 && slot[at] > 0; k++) {
                if (state[slot[at] - 1] == all) {
                    return slot[at] - 1;
                }
                at = at + 1 & SLOTS - 1;
            }
            return BAD;
        }

        private void addState(long all, int from, int event) {
            int at = slotOf(all);
            for (int k = 0; k < SLOTS && slot[at] > 0; k++) {
                at = at + 1 & SLOTS - 1;
            }
            state[states] = all;
            found[states][0] = from;
            found[states][1] = event;
            states++;
            slot[at] = states;
        }

        private long prove(int limit) {
            forgetProof();
            if (limit < 1 || limit > MOST_STATES || !hasPlan()) {
                return BAD;
            }
            Arrays.fill(slot, 0);
            setFirst(probe);
            addState(pack(probe), -1, 0);
            for (int s = 0; s < states && s < MOST_STATES; s++) {
                for (int event = 0; event < 1 + groups + plans; event++) {
                    unpack(state[s], probe);
                    int fault = goOn(probe, event);
                    if (fault != 0) {
                        noteFault(s, event, fault);
                        proof = FAULTY;
                        return FAULTY;
                    }
                    long all = pack(probe);
                    int number = numberOf(all);
                    if (number < 0 && states >= limit) {
                        proof = TOO_MANY;
                        return TOO_MANY;
                    }
                    if (number < 0) {
                        addState(all, s, event);
                        number = states - 1;
                    }
                    found[s][2 + event] = number;
                }
            }
            proof = SOUND;
            return SOUND;
        }

        private void noteFault(int from, int event, int fault) {
            int count = 0;
            for (int s = from; s > 0 && count < MOST_STATES; s = found[s][0]) {
                count++;
            }
            last[0] = count;
            for (int s = from; s > 0 && count > 0; s = found[s][0]) {
                count--;
                way[count] = s;
            }
            last[1] = event;
            last[2] = fault;
            state[MOST_STATES] = pack(probe);
        }

        private long rowOfFault(int k, int what) {
            if (proof != FAULTY || k < 0 || k > last[0]) {
                return BAD;
            }
            boolean end = k == last[0];
            unpack(state[end ? MOST_STATES : way[k]], probe);
            switch (what) {
                case 0: return end ? last[1] : found[way[k]][1];
                case 1: return probe[PLAN];
                case 2: return probe[PHASE];
                case 3: return shownBy(probe);
                case 4: return probe[CLEARING];
                case 5: return probe[WAITING];
                case 6: return end ? last[2] : 0;
                default: return BAD;
            }
        }

        private boolean waitsIn(int s, int g) {
            unpack(state[s], probe);
            return has(probe[WAITING], g);
        }

        /** The longest wait of a group, from the states behind which it does not wait back; - 1: without end. */
        private int longest(int g) {
            for (int s = 0; s < states; s++) {
                way[s] = waitsIn(s, g) ? -1 : 0;
            }
            int longest = 0;
            boolean more = true;
            for (int round = 0; round <= states && more; round++) {
                more = false;
                for (int s = states - 1; s >= 0; s--) {
                    if (way[s] < 0 && longestBehind(s) >= 0) {
                        way[s] = 1 + longestBehind(s);
                        longest = Math.max(longest, way[s]);
                        more = true;
                    }
                }
            }
            for (int s = 0; s < states; s++) {
                longest = way[s] < 0 ? -1 : longest;
            }
            return longest;
        }

        /** The longest wait behind a state; - 1: one of them is not known. */
        private int longestBehind(int s) {
            int longest = 0;
            for (int event = 0; event < 1 + groups + plans; event++) {
                int there = way[found[s][2 + event]];
                if (there < 0) {
                    return -1;
                }
                longest = Math.max(longest, there);
            }
            return longest;
        }

        private long ring(int k) {
            if (proof != SOUND || k < 0) {
                return BAD;
            }
            int seen = 0;
            for (int g = 0; g < groups; g++) {
                if (longest(g) < 0) {
                    if (seen == k) {
                        return g;
                    }
                    seen++;
                }
            }
            return BAD;
        }

        boolean allAnswered() {
            return proof == SOUND && ring(0) == BAD;
        }

        private boolean same(int more) {
            if (!hasPlan() || proof == NOT_PROVED || more < 0 || more > 100) {
                return false;
            }
            System.arraycopy(machine, 0, probe, 0, NUMBERS);
            for (int k = 1; k <= more; k++) {
                if (numberOf(pack(probe)) < 0 || goOn(probe, eventOf(seconds + k)) != 0) {
                    return false;
                }
            }
            return numberOf(pack(probe)) >= 0;
        }

        private static long clearingTime(int in, int out, int speed) {
            if (in < 0 || in > 1000 || out < 0 || out > 1000 || speed < 1 || speed > 50) {
                return BAD;
            }
            return Math.max((out + speed - 1) / speed - in / speed, 0);
        }
    }

    /** Part CARS: traffic that moves through cells in steps, in whole hundredths of cars. */
    private static final class Cars {
        static final int CELLS = 24;
        static final int STEPS = 200;
        static final int MOST_AT = 4;
        static final int MOST_JOINS = MOST_AT * CELLS;
        static final int MOST_TOLD = 200;
        static final int MOST_READ = 60;
        static final int MOST_RULES = 12;
        static final int MOST_ACTED = 300;
        static final int MOST_SAVED = 4;
        static final int LIMIT = 100000;
        static final int GREEN = 0;
        static final int CLOSING = 1;
        /** What steps and put() change stands in one row, so that it can be kept: where each part of it begins. */
        static final int INSIDE = 0;
        static final int LINE = INSIDE + CELLS;
        static final int DELAY = LINE + CELLS;
        static final int MOVED = DELAY + CELLS;
        static final int REST = MOVED + MOST_JOINS;
        static final int STEP = REST + MOST_JOINS;
        static final int OUT = STEP + 1;
        static final int CAME = OUT + 1;
        static final int ACTED = CAME + 1;
        static final int ACTS = ACTED + 1;
        /** Behind each step what was in each cell, and what left it in that step; there is no step 0. */
        static final int WAS = ACTS + MOST_ACTED;
        static final int LEFT = WAS + (STEPS + 1) * CELLS;
        static final int ALL = LEFT + (STEPS + 1) * CELLS;

        /** Of each cell its room, most, speed, ramp's LEAST, what its lane keeps, how many joins lead from it and to it. */
        private final int[][] cell = new int[CELLS][7];
        /** Of each join its two cells, its share above and below, and its rank. */
        private final int[][] join = new int[MOST_JOINS][5];
        private int joins;
        private final int[][] joinsFrom = new int[CELLS][MOST_AT];
        /** The joins to a cell in the order in which it takes from them. */
        private final int[][] joinsTo = new int[CELLS][MOST_AT];
        /** Of each setting its kind, cell, step, and the fraction (a signal: 1 or 0, by 1). */
        private final int[][] setting = new int[MOST_TOLD][5];
        private int settings;
        private final int[][] coming = new int[MOST_TOLD][3];
        private int comings;
        private final int[][] read = new int[MOST_READ][3];
        private int reads;
        private final int[][] rule = new int[MOST_RULES][3];
        private int rules;
        private final long[] now = new long[ALL];
        private final long[][] saved = new long[MOST_SAVED][1];
        private int saves;
        /** Of a step: the caps of cells, what they can send, send, take, and by which setting; what joins want. */
        private final long[] cap = new long[CELLS];
        private final long[] can = new long[CELLS];
        private final long[] sent = new long[CELLS];
        private final long[] takes = new long[CELLS];
        private final int[][] valid = new int[2][CELLS];
        private final long[] wanted = new long[MOST_JOINS];

        long answer(int call, int a, int b, int c, int d) {
            switch (call) {
                case 0: return setCell(a, b, c, d) ? 1 : 0;
                case 1: return joinCells(a, b) ? 1 : 0;
                case 2: return setShare(a, b, c, d) ? 1 : 0;
                case 3: return setRank(a, b, c) ? 1 : 0;
                case 4: return put(a, b) ? 1 : 0;
                case 5: return tellComing(a, b, c) ? 1 : 0;
                case 6: return setSignal(a, b, c != 0) ? 1 : 0;
                case 7: return run(a);
                case 8: return isCell(a) ? now[INSIDE + a] : BAD;
                case 9: return now[OUT];
                case 10: return allKept() ? 1 : 0;
                case 11: return isCell(a) ? now[DELAY + a] : BAD;
                case 12: return joinOf(a, b) >= 0 ? now[MOVED + joinOf(a, b)] : BAD;
                case 13: return restOf(a, b, c);
                case 14: return isFraction(c, d) && set(CLOSING, a, b, c, d) ? 1 : 0;
                case 15: return setMeter(a, b);
                case 16: return setLane(a, b, c);
                case 17: return tellRead(a, b, c) ? 1 : 0;
                case 18: return differs(a, b);
                case 19: return addRule(a, b, c) ? 1 : 0;
                case 20: return a >= 0 && a < Math.min(now[ACTED], MOST_ACTED) ? now[ACTS + a] : BAD;
                case 21: return save();
                case 22: return goBack(a) ? 1 : 0;
                case 23: return over(a);
                case 24: return toll(a, b);
                default: return NONE;
            }
        }

        private static boolean isCell(int k) {
            return k >= 0 && k < CELLS;
        }

        private static boolean isFraction(int above, int below) {
            return above >= 0 && above <= below && below >= 1 && below <= 1000;
        }

        int stepsDone() {
            return (int) now[STEP];
        }

        boolean stepsLeft() {
            return now[STEP] < STEPS;
        }

        private boolean isToCome(int step) {
            return step > now[STEP] && step <= STEPS;
        }

        private boolean wasDone(int step) {
            return step >= 1 && step <= now[STEP];
        }

        private boolean setCell(int k, int room, int most, int speed) {
            if (!isCell(k) || room < 0 || room > LIMIT || most < 0 || most > LIMIT || speed < 0 || speed > 100
                    || now[INSIDE + k] > room) {
                return false;
            }
            for (int s = 0; s < saves; s++) {
                if (saved[s][INSIDE + k] > room) {
                    return false;
                }
            }
            cell[k][0] = room;
            cell[k][1] = most;
            cell[k][2] = speed;
            return true;
        }

        /** The number of a join; - 1: there is none. */
        private int joinOf(int from, int to) {
            for (int k = 0; k < joins; k++) {
                if (join[k][0] == from && join[k][1] == to) {
                    return k;
                }
            }
            return -1;
        }

        private boolean joinCells(int a, int b) {
            if (!isCell(a) || !isCell(b) || a == b || joinOf(a, b) >= 0 || cell[a][5] >= MOST_AT || cell[b][6] >= MOST_AT) {
                return false;
            }
            int[] row = join[joins];
            row[0] = a;
            row[1] = b;
            row[3] = 1;
            joinsFrom[a][cell[a][5]] = joins;
            joinsTo[b][cell[b][6]] = joins;
            cell[a][5]++;
            cell[b][6]++;
            joins++;
            sortJoins(b);
            return true;
        }

        private void sortJoins(int to) {
            int[] list = joinsTo[to];
            for (int i = 1; i < cell[to][6]; i++) {
                for (int k = i; k > 0 && goesBefore(list[k], list[k - 1]); k--) {
                    int swap = list[k];
                    list[k] = list[k - 1];
                    list[k - 1] = swap;
                }
            }
        }

        private boolean goesBefore(int one, int other) {
            int[] a = join[one];
            int[] b = join[other];
            return a[4] != b[4] ? a[4] < b[4] : a[0] < b[0];
        }

        private boolean setShare(int from, int to, int above, int below) {
            int k = joinOf(from, to);
            if (k < 0 || !isFraction(above, below)) {
                return false;
            }
            join[k][2] = above;
            join[k][3] = below;
            now[REST + k] = 0;
            for (int s = 0; s < saves; s++) {
                saved[s][REST + k] = 0;
            }
            return true;
        }

        private boolean setRank(int into, int from, int rank) {
            int k = joinOf(from, into);
            if (k < 0 || rank < 0 || rank > 9) {
                return false;
            }
            join[k][4] = rank;
            sortJoins(into);
            return true;
        }

        private boolean put(int k, int cars) {
            if (!isCell(k) || cars < 0 || cars > cell[k][0]) {
                return false;
            }
            now[CAME] += cars - now[INSIDE + k];
            now[INSIDE + k] = cars;
            return true;
        }

        private boolean tellComing(int k, int step, int cars) {
            if (!isCell(k) || !isToCome(step) || cars < 0 || cars > LIMIT || comings >= MOST_TOLD) {
                return false;
            }
            coming[comings][0] = k;
            coming[comings][1] = step;
            coming[comings][2] = cars;
            comings++;
            return true;
        }

        boolean setSignal(int k, int step, boolean green) {
            return set(GREEN, k, step, green ? 1 : 0, 1);
        }

        private boolean set(int kind, int k, int step, int above, int below) {
            if (!isCell(k) || !isToCome(step) || settings >= MOST_TOLD) {
                return false;
            }
            int[] row = setting[settings];
            row[0] = kind;
            row[1] = k;
            row[2] = step;
            row[3] = above;
            row[4] = below;
            settings++;
            return true;
        }

        private long run(int steps) {
            if (steps < 0 || steps > STEPS) {
                return BAD;
            }
            for (int k = 0; k < steps && stepsLeft(); k++) {
                step();
            }
            return now[STEP];
        }

        void step() {
            if (!stepsLeft()) {
                return;
            }
            now[STEP]++;
            int t = (int) now[STEP];
            findSettings(t);
            for (int k = 0; k < comings; k++) {
                if (coming[k][1] == t) {
                    now[LINE + coming[k][0]] += coming[k][2];
                    now[CAME] += coming[k][2];
                }
            }
            for (int k = 0; k < CELLS; k++) {
                int by = valid[CLOSING][k];
                cap[k] = by < 0 ? cell[k][1] : (long) cell[k][1] * setting[by][3] / setting[by][4];
                can[k] = Math.min(now[INSIDE + k], cap[k]);
                sent[k] = sends(k, t) ? can[k] : 0;
                long free = Math.max(cell[k][0] - cell[k][4] - now[INSIDE + k], 0);
                takes[k] = Math.min(cap[k], free * cell[k][2] / 100);
            }
            holdCells(t);
            for (int k = 0; k < CELLS; k++) {
                shareOut(k);
            }
            for (int k = 0; k < CELLS; k++) {
                moveInto(k);
            }
            finish(t);
        }

        /** For each cell the setting of each kind that holds in a step; - 1: none does. */
        private void findSettings(int t) {
            for (int kind = GREEN; kind <= CLOSING; kind++) {
                Arrays.fill(valid[kind], -1);
            }
            for (int k = 0; k < settings; k++) {
                int[] row = setting[k];
                int[] best = valid[row[0]];
                if (row[2] <= t && (best[row[1]] < 0 || row[2] >= setting[best[row[1]]][2])) {
                    best[row[1]] = k;
                }
            }
        }

        /** Whether the signal and the ramp of a cell let it send in a step. */
        private boolean sends(int k, int t) {
            int least = cell[k][3];
            int by = valid[GREEN][k];
            return (by < 0 || setting[by][3] == 1) && (least == 0 || (t - 1) % (2 * least) < least);
        }

        private void holdCells(int t) {
            for (int k = 0; k < rules; k++) {
                int held = rule[k][2];
                if (now[INSIDE + rule[k][0]] > rule[k][1]) {
                    sent[held] = 0;
                    if (now[ACTED] < MOST_ACTED) {
                        now[ACTS + (int) now[ACTED]] = 100L * t + held;
                        now[ACTED]++;
                    }
                }
            }
        }

        /** What each join from a cell wants of what it sends. */
        private void shareOut(int k) {
            long left = sent[k];
            int count = cell[k][5];
            for (int i = 0; i < count; i++) {
                int j = joinsFrom[k][i];
                wanted[j] = left;
                if (i + 1 < count) {
                    long all = sent[k] * join[j][2] + now[REST + j];
                    wanted[j] = Math.min(all / join[j][3], left);
                    now[REST + j] = all % join[j][3];
                }
                left -= wanted[j];
            }
            now[LEFT + cellOf(k)] = count == 0 ? sent[k] : 0;
            now[OUT] += count == 0 ? sent[k] : 0;
        }

        /** Where a cell's number of this step stands among those of all steps. */
        private int cellOf(int k) {
            return (int) now[STEP] * CELLS + k;
        }

        private void moveInto(int k) {
            for (int i = 0; i < cell[k][6]; i++) {
                int j = joinsTo[k][i];
                long amount = Math.min(takes[k], wanted[j]);
                takes[k] -= amount;
                now[INSIDE + k] += amount;
                now[MOVED + j] += amount;
                now[LEFT + cellOf(join[j][0])] += amount;
            }
            long amount = Math.min(takes[k], now[LINE + k]);
            now[INSIDE + k] += amount;
            now[LINE + k] -= amount;
        }

        private void finish(int t) {
            for (int k = 0; k < CELLS; k++) {
                long left = now[LEFT + cellOf(k)];
                now[INSIDE + k] -= left;
                now[DELAY + k] += can[k] - left + now[LINE + k];
                now[WAS + t * CELLS + k] = now[INSIDE + k];
            }
        }

        boolean allKept() {
            long sum = now[OUT];
            boolean room = true;
            for (int k = 0; k < CELLS; k++) {
                sum += now[INSIDE + k] + now[LINE + k];
                room &= now[INSIDE + k] <= cell[k][0];
            }
            return room && sum == now[CAME];
        }

        private long restOf(int from, int to, int part) {
            int k = joinOf(from, to);
            if (k < 0 || part < 0 || part > 1) {
                return BAD;
            }
            return part == 0 ? now[REST + k] : join[k][3];
        }

        private long setMeter(int k, int least) {
            if (!isCell(k) || least < 0 || least > 20) {
                return BAD;
            }
            int was = cell[k][3];
            cell[k][3] = least;
            return was;
        }

        private long setLane(int k, int kind, int room) {
            if (!isCell(k) || kind < 0 || kind > 1 || kind == 1 && (room < 0 || room > LIMIT)) {
                return BAD;
            }
            int was = cell[k][4];
            cell[k][4] = kind == 1 ? room : 0;
            return was;
        }

        private boolean tellRead(int k, int step, int v) {
            if (!isCell(k) || step < 0 || step > STEPS || reads >= MOST_READ) {
                return false;
            }
            read[reads][0] = k;
            read[reads][1] = step;
            read[reads][2] = v;
            reads++;
            return true;
        }

        private long differs(int k, int what) {
            if (k < 0 || what < 0 || what > 2) {
                return BAD;
            }
            int seen = 0;
            for (int i = 0; i < reads; i++) {
                int step = read[i][1];
                if (step > now[STEP] || step == 0 && now[STEP] > 0) {
                    continue;
                }
                int is = (int) now[step == 0 ? INSIDE + read[i][0] : WAS + step * CELLS + read[i][0]];
                if (is == read[i][2]) {
                    continue;
                }
                if (seen == k) {
                    return what == 2 ? is - read[i][2] : read[i][what];
                }
                seen++;
            }
            return BAD;
        }

        private boolean addRule(int k, int above, int held) {
            if (!isCell(k) || !isCell(held) || above < 0 || rules >= MOST_RULES) {
                return false;
            }
            rule[rules][0] = k;
            rule[rules][1] = above;
            rule[rules][2] = held;
            rules++;
            return true;
        }

        private long save() {
            if (saves >= MOST_SAVED) {
                return BAD;
            }
            saved[saves] = now.clone();
            return saves++;
        }

        private boolean goBack(int number) {
            if (number < 0 || number >= saves) {
                return false;
            }
            System.arraycopy(saved[number], 0, now, 0, ALL);
            return true;
        }

        private long over(int step) {
            if (!wasDone(step)) {
                return BAD;
            }
            int full = 0;
            for (int k = 0; k < CELLS; k++) {
                full += now[WAS + step * CELLS + k] >= cell[k][0] - cell[k][4] ? 1 : 0;
            }
            return full;
        }

        private long toll(int k, int step) {
            if (!isCell(k) || !wasDone(step)) {
                return BAD;
            }
            return now[LEFT + step * CELLS + k] * ((step - 1) % 60 < 20 ? 10 : 4);
        }
    }

    /** Part CONTRACT: items read from a text, shapes measured into them by entries, and what is paid for that. */
    private static final class Contract {
        static final int MOST_SIGNS = 200;
        static final int MOST_ITEMS = 8;
        static final int MOST_SHAPES = 40;
        static final int MOST_ENTRIES = 60;
        static final int MOST_CHANGES = 20;
        static final int MOST_PENALTIES = 10;
        static final int MOST_OPEN = 100;
        static final int MONTHS = 12;
        static final int KEPT = MONTHS;
        static final int FIRMS = 4;
        static final int MOST_THINGS = 30;
        static final int MOST_BRACKETS = 10;
        static final int LIMIT = 9999;
        /** An item's row of numbers: its name's length, its name, its step, its cents, its things as they are done. */
        static final int NAME = 1;
        static final int MOST_NAME = 8;
        static final int STEP = NAME + MOST_NAME;
        static final int CENTS = STEP + 1;
        static final int COUNT = CENTS + 1;
        static final int THINGS = COUNT + 1;
        static final int ITEM = THINGS + MOST_THINGS;
        static final int BEGIN = 0;
        static final int LENGTH = 1;
        static final int WORD_KIND = 2;
        /** What words are: letters, digits, or else the sign itself. */
        static final char LETTERS = 'a';
        static final char DIGITS = '0';
        /** An entry's numbers: shape, item, month, 1 for a difference, the a it has, the a it had before. */
        static final int SHAPE = 0;
        static final int WHERE = 1;
        static final int MONTH = 2;
        static final int KIND = 3;
        static final int NEW_A = 4;
        static final int OLD_A = 5;

        private final char[] text = new char[MOST_SIGNS];
        private int signs;
        /** Of each word where it begins, how many signs it has, and what it is. */
        private final int[][] word = new int[MOST_SIGNS][3];
        private int words;
        private final int[][] item = new int[MOST_ITEMS][ITEM];
        private int items;
        private final int[][] shape = new int[MOST_SHAPES][4];
        private int shapes;
        private final int[][] entry = new int[MOST_ENTRIES][6];
        private final long[] measured = new long[MOST_ENTRIES];
        private int entries;
        private final int[][] change = new int[MOST_CHANGES][4];
        private int changes;
        /** The fraction of each month's index; behind them the one that is kept. */
        private final int[][] index = new int[MONTHS + 1][2];
        private int backMonth = -1;
        private final int[][] penalty = new int[MOST_PENALTIES][3];
        private int penalties;
        private final int[] weight = new int[FIRMS];
        private final int[][] open = new int[MOST_OPEN][3];
        private int opens;
        /** Whether the last measure divided by 0. */
        private boolean divided;
        /** Numbers, or signs, that wait while an expression is done or read. */
        private final long[] stack = new long[MOST_THINGS + MOST_BRACKETS + 1];
        private final char[] written = new char[MOST_ITEMS * (MOST_NAME + 43)];

        Contract() {
            for (int m = 0; m < MONTHS; m++) {
                index[m][0] = 1;
                index[m][1] = 1;
            }
            index[KEPT][1] = 1;
        }

        long answer(int call, int a, int b, int c, int d) {
            switch (call) {
                case 0: return collect(a) ? 1 : 0;
                case 1: return read();
                case 2: return setRate(a, b);
                case 3: return addShape(a, b, c, d);
                case 4: return addPlain(a, b, c) ? 1 : 0;
                case 5: return quantityPart(a, b, c, false);
                case 6: return quantityPart(a, b, c, true);
                case 7: return isMonth(a) && b >= 0 && b <= 4 ? pay(a, b) : BAD;
                case 8: return twice(a, b);
                case 9: return a >= 0 && a < opens && b >= 0 && b <= 2 ? open[a][b] : BAD;
                case 10: return addChange(a, b, c, d);
                case 11: return setIndex(a, b, c) ? 1 : 0;
                case 12: return setKeep(a, b) ? 1 : 0;
                case 13: return isMonth(a) ? stillKept(a) : BAD;
                case 14: return setBack(a);
                case 15: return addPenalty(a, b, c) ? 1 : 0;
                case 16: return isMonth(a) ? sumOfPay(a, 4) : BAD;
                case 17: return setFirm(a, b) ? 1 : 0;
                case 18: return shareOf(a, b);
                case 19: return correct(a, b, c);
                case 20: return a >= 0 && a <= 4 ? sumOfPay(MONTHS - 1, a) : BAD;
                case 21: return dispute(a, b);
                case 22: return plainEntries(a);
                case 23: return sign(a);
                default: return NONE;
            }
        }

        private static boolean isMonth(int month) {
            return month >= 0 && month < MONTHS;
        }

        boolean isItem(int k) {
            return k >= 0 && k < items;
        }

        private boolean isShape(int k) {
            return k >= 0 && k < shapes;
        }

        private boolean collect(int u) {
            if (u < 32 || u > 126 || signs >= MOST_SIGNS) {
                return false;
            }
            text[signs] = (char) u;
            signs++;
            return true;
        }

        private static char kindOfSign(char c) {
            if (c >= 'a' && c <= 'z') {
                return LETTERS;
            }
            return c >= '0' && c <= '9' ? DIGITS : c;
        }

        private void findWords() {
            words = 0;
            char before = ' ';
            for (int i = 0; i < signs; i++) {
                char kind = kindOfSign(text[i]);
                if (words > 0 && kind == before && (kind == LETTERS || kind == DIGITS)) {
                    word[words - 1][LENGTH]++;
                } else if (kind != ' ') {
                    word[words][BEGIN] = i;
                    word[words][LENGTH] = 1;
                    word[words][WORD_KIND] = kind;
                    words++;
                }
                before = kind;
            }
        }

        /** What a word is; 0: there is none such. */
        private int kindOf(int w) {
            return w >= 0 && w < words ? word[w][WORD_KIND] : 0;
        }

        private int lengthOf(int w) {
            return w >= 0 && w < words ? word[w][LENGTH] : 0;
        }

        private char signOf(int w, int k) {
            return w >= 0 && w < words && k >= 0 && k < word[w][LENGTH] ? text[word[w][BEGIN] + k] : ' ';
        }

        /** The number that a word is; - 1: it is none, or has more than four digits. */
        private int numberOf(int w) {
            if (kindOf(w) != DIGITS || lengthOf(w) > 4) {
                return -1;
            }
            int v = 0;
            for (int k = 0; k < lengthOf(w); k++) {
                v = 10 * v + signOf(w, k) - '0';
            }
            return v;
        }

        private long read() {
            if (items > 0) {
                return -1000;
            }
            findWords();
            int last = 0;
            int w = takeItem(0, last);
            while (w >= 0 && kindOf(w) == ';' && last + 1 < MOST_ITEMS) {
                last++;
                w = takeItem(w + 1, last);
            }
            signs = 0;
            if (w < 0) {
                return w;
            }
            if (w < words) {
                // behind the last item there may be is a sign, but no name
                return kindOf(w) == ';' ? -2 - w : -1 - w;
            }
            items = last + 1;
            return items;
        }

        /** Takes an item: the word behind it, or - 1 less the number of the first wrong word. */
        private int takeItem(int w, int k) {
            if (!takeName(w, k)) {
                return -1 - w;
            }
            if (kindOf(w + 1) != '=') {
                return -2 - w;
            }
            int end = takeExpression(w + 2, item[k]);
            if (end < 0 || kindOf(end) != '~') {
                return end;
            }
            item[k][STEP] = numberOf(end + 1);
            return item[k][STEP] < 1 ? -2 - end : end + 2;
        }

        /** Takes a word as the name of an item, if it can be one. */
        private boolean takeName(int w, int k) {
            int length = lengthOf(w);
            if (kindOf(w) != LETTERS || length > MOST_NAME) {
                return false;
            }
            int[] row = item[k];
            row[0] = length;
            row[STEP] = 1;
            for (int i = 0; i < length; i++) {
                row[NAME + i] = signOf(w, i);
            }
            for (int other = 0; other < k; other++) {
                boolean same = item[other][0] == length;
                for (int i = 0; i < length && same; i++) {
                    same = item[other][NAME + i] == row[NAME + i];
                }
                if (same) {
                    return false;
                }
            }
            return true;
        }

        /**
         * Takes an expression: the word behind it, or - 1 less the number of the first wrong word. Signs wait until what
         * binds at least as strongly is done, so things come into the order in which they are done.
         */
        private int takeExpression(int first, int[] row) {
            int things = 0;
            int waiting = 0;
            int brackets = 0;
            boolean operand = true;
            row[COUNT] = 0;
            for (int w = first; w <= words; w++) {
                int kind = kindOf(w);
                if (operand && kind == '(' && brackets < MOST_BRACKETS) {
                    stack[waiting++] = '(';
                    brackets++;
                } else if (operand && thing(w) != 0 && things < MOST_THINGS) {
                    row[THINGS + row[COUNT]++] = thing(w);
                    things++;
                    operand = false;
                } else if (!operand && kind == ')' && brackets > 0) {
                    waiting = takeWaiting(row, waiting, 1) - 1;
                    brackets--;
                } else if (!operand && rankOf(kind) > 0 && things < MOST_THINGS) {
                    waiting = takeWaiting(row, waiting, rankOf(kind));
                    stack[waiting++] = kind;
                    things++;
                    operand = true;
                } else if (!operand && brackets == 0 && (w == words || kind == ';' || kind == '~')) {
                    takeWaiting(row, waiting, 1);
                    return w;
                } else {
                    return -1 - w;
                }
            }
            return -1 - words;
        }

        /** Signs that wait and bind at least so strongly become things, back to a bracket: how many still wait. */
        private int takeWaiting(int[] row, int waiting, int rank) {
            int left = waiting;
            while (left > 0 && rankOf(stack[left - 1]) >= rank && row[COUNT] < MOST_THINGS) {
                left--;
                row[THINGS + row[COUNT]++] = -(int) stack[left];
            }
            return left;
        }

        private static int rankOf(long c) {
            return c == '+' || c == '-' ? 1 : c == '*' || c == '/' ? 2 : 0;
        }

        /** What a word counts as: a number and one more, a letter as below 0; 0: it is neither. */
        private int thing(int w) {
            if (kindOf(w) == DIGITS) {
                return numberOf(w) + 1;
            }
            char c = signOf(w, 0);
            boolean letter = kindOf(w) == LETTERS && lengthOf(w) == 1 && (c == 'k' || c >= 'a' && c <= 'c');
            return letter ? -c : 0;
        }

        /** A measure of an item for a shape with an a; divided tells then whether it is open. */
        private long measure(int k, int[] of, int a) {
            int[] row = item[k];
            int left = 0;
            divided = false;
            for (int i = 0; i < row[COUNT]; i++) {
                int thing = row[THINGS + i];
                if (thing > 0) {
                    stack[left++] = thing - 1;
                } else if (thing <= -'a') {
                    stack[left++] = thing == -'k' ? of[0] : thing == -'a' ? a : of[thing == -'b' ? 2 : 3];
                } else if (left > 1) {
                    left--;
                    stack[left - 1] = joined(stack[left - 1], stack[left], (char) -thing);
                }
            }
            if (divided || left < 1) {
                return 0;
            }
            long step = row[STEP];
            return step < 1 ? stack[0] : Math.floorDiv(2 * stack[0] + step, 2 * step) * step;
        }

        private long joined(long a, long b, char sign) {
            switch (sign) {
                case '+': return a + b;
                case '-': return a - b;
                case '*': return a * b;
                default:
                    if (b == 0) {
                        divided = true;
                        return 0;
                    }
                    return a / b;
            }
        }

        private void tellOpen(int why, int where, int which) {
            if (opens < MOST_OPEN) {
                open[opens][0] = why;
                open[opens][1] = where;
                open[opens][2] = which;
                opens++;
            }
        }

        private long setRate(int k, int price) {
            if (price < -1000000 || price > 1000000) {
                return 0;
            }
            if (!isItem(k)) {
                tellOpen(1, k, BAD);
                return BAD;
            }
            item[k][CENTS] = price;
            return 1;
        }

        private static boolean isSize(int v) {
            return v >= -LIMIT && v <= LIMIT;
        }

        int addShape(int kind, int a, int b, int c) {
            if (kind < 0 || kind > 3 || !isSize(a) || !isSize(b) || !isSize(c) || shapes >= MOST_SHAPES) {
                return BAD;
            }
            int[] row = shape[shapes];
            row[0] = kind;
            row[1] = a;
            row[2] = b;
            row[3] = c;
            return shapes++;
        }

        boolean addPlain(int s, int k, int month) {
            if (!isShape(s) || !isItem(k) || !isMonth(month) || entries >= MOST_ENTRIES) {
                return false;
            }
            int a = shape[s][1];
            addEntry(s, k, month, 0);
            entry[entries][NEW_A] = a;
            entry[entries][OLD_A] = a;
            measured[entries] = measure(k, shape[s], a);
            if (divided) {
                tellOpen(0, k, s);
            }
            entries++;
            return true;
        }

        private void addEntry(int s, int k, int month, int kind) {
            int[] row = entry[entries];
            row[SHAPE] = s;
            row[WHERE] = k;
            row[MONTH] = month;
            row[KIND] = kind;
        }

        private long correct(int s, int a, int month) {
            if (!isShape(s) || !isSize(a) || !isMonth(month)) {
                return BAD;
            }
            int count = 0;
            int before = entries;
            for (int e = 0; e < before; e++) {
                count += entry[e][SHAPE] == s && entry[e][KIND] == 0 ? 1 : 0;
            }
            if (before + count > MOST_ENTRIES) {
                return BAD;
            }
            for (int e = 0; e < before; e++) {
                if (entry[e][SHAPE] == s && entry[e][KIND] == 0) {
                    addDifference(s, entry[e][WHERE], month, a);
                }
            }
            shape[s][1] = a;
            return count;
        }

        private void addDifference(int s, int k, int month, int a) {
            if (entries >= MOST_ENTRIES) {
                return;
            }
            addEntry(s, k, month, 1);
            entry[entries][NEW_A] = a;
            entry[entries][OLD_A] = shape[s][1];
            long was = measure(k, shape[s], shape[s][1]);
            long is = measure(k, shape[s], a);
            measured[entries] = is - was;
            if (divided) {
                tellOpen(0, k, s);
            }
            entries++;
        }

        private boolean isOf(int e, int k, int month) {
            return entry[e][WHERE] == k && entry[e][MONTH] == month;
        }

        /** The sum of entries of an item in a month, by what was measured. */
        private long quantity(int k, int month) {
            long sum = 0;
            for (int e = 0; e < entries; e++) {
                sum += entry[e][WHERE] == k && entry[e][MONTH] == month ? measured[e] : 0;
            }
            return sum;
        }

        /** The same by measuring all anew. */
        private long walked(int k, int month) {
            long sum = 0;
            for (int e = 0; e < entries; e++) {
                if (isOf(e, k, month)) {
                    int[] of = shape[entry[e][SHAPE]];
                    sum += measure(k, of, entry[e][NEW_A]);
                    sum -= entry[e][KIND] == 1 ? measure(k, of, entry[e][OLD_A]) : 0;
                }
            }
            return sum;
        }

        private long quantityPart(int k, int month, int part, boolean anew) {
            if (!isItem(k) || !isMonth(month) || part < 0 || part > 2) {
                return BAD;
            }
            if (part == 0) {
                return anew ? walked(k, month) : quantity(k, month);
            }
            int count = 0;
            for (int e = 0; e < entries; e++) {
                count += isOf(e, k, month) && entry[e][KIND] == part - 1 ? 1 : 0;
            }
            return count;
        }

        boolean walksAgree() {
            for (int k = 0; k < items; k++) {
                for (int month = 0; month < MONTHS; month++) {
                    if (quantity(k, month) != walked(k, month)) {
                        return false;
                    }
                }
            }
            return true;
        }

        private long rateOf(int k, int month) {
            long rate = item[k][CENTS];
            for (int c = 0; c < changes; c++) {
                int[] row = change[c];
                if (row[0] == k && row[3] <= month && row[2] > 0) {
                    rate = rate * row[1] / row[2];
                }
            }
            return rate;
        }

        private long gross(int month) {
            long sum = 0;
            for (int k = 0; k < items; k++) {
                sum += quantity(k, month) * rateOf(k, month);
            }
            return index[month][1] > 0 ? sum * index[month][0] / index[month][1] : 0;
        }

        private long kept(int month) {
            long all = gross(month);
            return all > 0 && index[KEPT][1] > 0 ? all * index[KEPT][0] / index[KEPT][1] : 0;
        }

        private long keptUpTo(int month) {
            long sum = 0;
            for (int m = 0; m <= month; m++) {
                sum += kept(m);
            }
            return sum;
        }

        private long stillKept(int month) {
            return keptUpTo(month) - (backMonth >= 0 && month >= backMonth ? keptUpTo(backMonth) : 0);
        }

        private long penaltiesOf(int month) {
            long sum = 0;
            for (int k = 0; k < penalties; k++) {
                sum += penalty[k][0] <= month && month <= penalty[k][1] ? penalty[k][2] : 0;
            }
            return sum;
        }

        private long pay(int month, int part) {
            switch (part) {
                case 0: return gross(month);
                case 1: return kept(month);
                case 2: return penaltiesOf(month);
                case 3: return month == backMonth ? keptUpTo(month) : 0;
                default: return gross(month) - kept(month) - penaltiesOf(month) + (month == backMonth ? keptUpTo(month) : 0);
            }
        }

        private long sumOfPay(int month, int part) {
            long sum = 0;
            for (int m = 0; m <= month; m++) {
                sum += pay(m, part);
            }
            return sum;
        }

        private static boolean areTwice(int[] one, int[] other) {
            return one[KIND] == 0 && other[KIND] == 0 && one[SHAPE] == other[SHAPE];
        }

        private long twice(int k, int what) {
            if (k < 0 || what < 0 || what > 2) {
                return BAD;
            }
            int seen = 0;
            for (int later = 0; later < entries; later++) {
                for (int earlier = 0; earlier < later; earlier++) {
                    if (areTwice(entry[earlier], entry[later])) {
                        if (seen == k) {
                            return what == 0 ? entry[later][SHAPE] : entry[what == 1 ? earlier : later][WHERE];
                        }
                        seen++;
                    }
                }
            }
            return BAD;
        }

        private long addChange(int k, int above, int below, int month) {
            if (!isItem(k) || above < 0 || above > 1000 || below < 1 || below > 1000 || !isMonth(month)
                    || changes >= MOST_CHANGES) {
                return BAD;
            }
            change[changes][0] = k;
            change[changes][1] = above;
            change[changes][2] = below;
            change[changes][3] = month;
            changes++;
            return changes;
        }

        private boolean setIndex(int month, int above, int below) {
            if (!isMonth(month) || above < 0 || above > 1000 || below < 1 || below > 1000) {
                return false;
            }
            index[month][0] = above;
            index[month][1] = below;
            return true;
        }

        private boolean setKeep(int above, int below) {
            if (above < 0 || above > below || below < 1 || below > 1000) {
                return false;
            }
            index[KEPT][0] = above;
            index[KEPT][1] = below;
            return true;
        }

        private long setBack(int month) {
            if (!isMonth(month) || backMonth >= 0) {
                return BAD;
            }
            backMonth = month;
            return keptUpTo(month);
        }

        private boolean addPenalty(int from, int to, int price) {
            if (!isMonth(from) || !isMonth(to) || from > to || price < 0 || price > 1000000 || penalties >= MOST_PENALTIES) {
                return false;
            }
            penalty[penalties][0] = from;
            penalty[penalties][1] = to;
            penalty[penalties][2] = price;
            penalties++;
            return true;
        }

        private boolean setFirm(int firm, int w) {
            if (firm < 0 || firm >= FIRMS || w < 0 || w > 1000) {
                return false;
            }
            weight[firm] = w;
            return true;
        }

        private long shareOf(int firm, int month) {
            if (firm < 0 || firm >= FIRMS || !isMonth(month)) {
                return BAD;
            }
            int all = 0;
            for (int w : weight) {
                all += w;
            }
            if (all == 0) {
                return 0;
            }
            long net = pay(month, 4);
            // the side below 0 reaches farther: there every net has its size
            long size = net > 0 ? -net : net;
            int rest = (int) -(size % all);
            int remain = rest * weight[firm] % all;
            int left = 0;
            int ahead = 0;
            for (int f = 0; f < FIRMS; f++) {
                int other = rest * weight[f] % all;
                left += other;
                ahead += other > remain || other == remain && f < firm ? 1 : 0;
            }
            long share = size / all * weight[firm] - rest * weight[firm] / all - (ahead < left / all ? 1 : 0);
            return net > 0 ? -share : share;
        }

        private long dispute(int k, int number) {
            if (!isItem(k) || number < 0) {
                return BAD;
            }
            int seen = 0;
            for (int e = 0; e < entries; e++) {
                if (entry[e][KIND] == 0 && entry[e][WHERE] == k && hasOther(e)) {
                    if (seen == number) {
                        return entry[e][SHAPE];
                    }
                    seen++;
                }
            }
            return BAD;
        }

        private boolean hasOther(int one) {
            for (int e = 0; e < entries; e++) {
                if (e != one && areTwice(entry[e], entry[one])) {
                    return true;
                }
            }
            return false;
        }

        private long plainEntries(int k) {
            if (!isItem(k)) {
                throw new ArrayIndexOutOfBoundsException();
            }
            int count = 0;
            for (int e = 0; e < entries; e++) {
                count += entry[e][WHERE] == k && entry[e][KIND] == 0 ? 1 : 0;
            }
            return count;
        }

        private long sign(int i) {
            int end = 0;
            for (int k = 0; k < items; k++) {
                for (int s = 0; s < item[k][0]; s++) {
                    end = write(end, (char) item[k][NAME + s]);
                }
                long sum = 0;
                long pay = 0;
                for (int month = 0; month < MONTHS; month++) {
                    long q = quantity(k, month);
                    sum += q;
                    pay += q * rateOf(k, month);
                }
                end = write(end, ':');
                end = writeNumber(end, sum);
                end = write(end, '=');
                end = writeNumber(end, pay);
                end = write(end, ';');
            }
            return i >= 0 && i < end ? written[i] : BAD;
        }

        private int write(int at, char c) {
            if (at < written.length) {
                written[at] = c;
            }
            return at + 1;
        }

        private int writeNumber(int at, long v) {
            int digits = 1;
            for (long left = v / 10; left != 0 && digits < 20; left /= 10) {
                digits++;
            }
            int end = v < 0 ? write(at, '-') : at;
            long left = v;
            for (int k = digits - 1; k >= 0; k--) {
                long digit = left % 10;
                write(end + k, (char) ('0' + (digit < 0 ? -digit : digit)));
                left /= 10;
            }
            return end + digits;
        }
    }
}
