/** Promises 1, 2: a new object, and which calls there are. */
public final class DeskTest {
    public static void main(String[] args) {
        Check c = new Check("DeskTest");
        c.due("BAD", RoadHouse.BAD, -1L);
        c.due("NONE", RoadHouse.NONE, -9000000000000000000L);
        int[] behind = {18, 118, 215, 323, 420, 520, 625, 724, 800, -1, -100, Integer.MIN_VALUE, Integer.MAX_VALUE, 99, 199, 299, 399, 499, 599, 699, 799};
        RoadHouse x = new RoadHouse();
        for (int call : behind) {
            c.due("act " + call, x.act(call, 0, 0, 0, 0, 0), RoadHouse.NONE);
        }
        c.rows(x, new long[][] {
            {8, -1}, {9, 0}, {16, -1}, {17, 0}, {7, 0, -1}, {6, 0, 0, -1}, {10, 0, 1, -3},
            {110, 0, -1}, {116, -1}, {115, 0, 0, 0}, {115, 0, 2, -1}, {112, 0, -1},
            {214, 0, 1}, {214, 1, 0}, {214, 2, 0}, {214, 3, 1}, {214, 4, 1}, {205, 0},
            {305, -1, -2}, {305, 0, -1}, {314, 0}, {320, 0}, {321, 0}, {322, 0},
            {401, 0}, {404, 0}, {403, 0, -2}, {405, 1}, {414, 0, -2}, {419, 0, 0, -1},
            {506, 0}, {509, -1}, {510, 0, -1}, {513, 0}, {515, 0, -2}, {517, 0}, {518, 0, 0},
            {607, 0, 0}, {609, 0}, {610, 1}, {620, 0, -1},
            {720, 4, 0}, {709, 0, 0, -1}, {723, 0, -1},
        });
        c.due("whole 0", x.whole(0), 0);
        int[] whole = {0, 0, -1, 1, 0, 1, 0, 1, 1, -1};
        for (int k = 0; k < whole.length; k++) {
            c.due("whole " + k, x.whole(k), whole[k]);
        }
        c.due("whole -1", x.whole(-1), -1);
        c.due("crackAt", x.crackAt(0), -1.0);
        c.due("logJoin", x.logJoin(0, 1.0), -1.0);
        c.dueThrow(x, NegativeArraySizeException.class, 500, -1);
        c.dueThrow(x, IllegalArgumentException.class, 500, 0);
        c.dueThrow(x, IllegalArgumentException.class, 500, 7);
        c.dueThrow(x, IllegalStateException.class, 108, -1);
        c.dueThrow(x, ArrayIndexOutOfBoundsException.class, 722, 0);
        c.dueThrow(x, ArrayIndexOutOfBoundsException.class, 202, 1, 1, 1);
        c.dueThrow(x, ArrayIndexOutOfBoundsException.class, 203, 2, 0, 0);
        c.dueThrow(x, ArrayIndexOutOfBoundsException.class, 204, -1, 0, 0);
        c.dueThrow(x, ArrayIndexOutOfBoundsException.class, 501, 0, 1, 0);
        c.dueThrow(x, ArrayIndexOutOfBoundsException.class, 502, 1, 1);
        c.dueThrow(x, ArrayIndexOutOfBoundsException.class, 503, -1, 1);
        c.end();
    }
}
