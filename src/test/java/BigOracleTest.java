import java.lang.reflect.Constructor;
import java.lang.reflect.Field;
import java.lang.reflect.Method;
import java.math.BigInteger;
import java.util.Random;

/** The class's own numbers of any size against the library's: limbs at their edges, where guesses of a division fail. */
public final class BigOracleTest {
    private static final int BITS = 30;
    private static final int[] EDGE = {0, 1, 2, (1 << 29) - 1, 1 << 29, (1 << 29) + 1, (1 << 30) - 2, (1 << 30) - 1};
    private final Constructor<?> made;
    private final Field d;
    private final Field len;
    private final Field sign;
    private final Class<?> big;

    private BigOracleTest() throws ReflectiveOperationException {
        big = Class.forName("RoadHouse$Big");
        made = big.getDeclaredConstructor(int.class);
        made.setAccessible(true);
        d = field("d");
        len = field("len");
        sign = field("sign");
    }

    private Field field(String name) throws ReflectiveOperationException {
        Field f = big.getDeclaredField(name);
        f.setAccessible(true);
        return f;
    }

    private Object number(Random r, int limbs) throws ReflectiveOperationException {
        Object b = made.newInstance(40);
        int[] at = (int[]) d.get(b);
        int n = limbs;
        for (int k = 0; k < limbs; k++) {
            at[k] = r.nextInt(3) > 0 ? EDGE[r.nextInt(EDGE.length)] : r.nextInt(1 << 30);
        }
        while (n > 0 && at[n - 1] == 0) {
            n--;
        }
        len.setInt(b, n);
        sign.setInt(b, n == 0 ? 0 : r.nextBoolean() ? 1 : -1);
        return b;
    }

    private BigInteger value(Object b) throws ReflectiveOperationException {
        int[] at = (int[]) d.get(b);
        BigInteger v = BigInteger.ZERO;
        for (int k = len.getInt(b) - 1; k >= 0; k--) {
            v = v.shiftLeft(BITS).add(BigInteger.valueOf(at[k]));
        }
        return sign.getInt(b) < 0 ? v.negate() : v;
    }

    private Object call(Object b, String name, Object... args) throws ReflectiveOperationException {
        for (Method m : big.getDeclaredMethods()) {
            Class<?>[] types = m.getParameterTypes();
            boolean fits = m.getName().equals(name) && types.length == args.length;
            for (int k = 0; k < args.length && fits; k++) {
                fits = types[k].isInstance(args[k]) || types[k] == int.class && args[k] instanceof Integer || types[k] == long.class && args[k] instanceof Long;
            }
            if (fits) {
                m.setAccessible(true);
                return m.invoke(b, args);
            }
        }
        throw new NoSuchMethodException(name);
    }

    private static void same(Check c, String what, BigInteger got, BigInteger want) {
        c.due(what + " is " + want + ", got " + got, got.equals(want) ? 1 : 0, 1);
    }

    private void once(Check c, Random r) throws ReflectiveOperationException {
        Object a = number(r, r.nextInt(10));
        Object b = number(r, 1 + r.nextInt(5));
        BigInteger va = value(a);
        BigInteger vb = value(b);
        c.due("compare", (Integer) call(a, "compare", b), va.compareTo(vb));
        Object p = number(r, 12);
        call(p, "product", a, b);
        same(c, "product", value(p), va.multiply(vb));
        long v = r.nextInt(4) == 0 ? Long.MIN_VALUE + r.nextInt(2) : r.nextLong() >> r.nextInt(63);
        call(p, "product", a, (Long) v);
        same(c, "product by " + v, value(p), va.multiply(BigInteger.valueOf(v)));
        call(p, "set", (Long) v);
        same(c, "set", value(p), BigInteger.valueOf(v));
        call(p, "copy", a);
        int times = r.nextBoolean() ? 1 : -1;
        call(p, "add", b, (Integer) times);
        same(c, "sum", value(p), va.add(vb.multiply(BigInteger.valueOf(times))));
        call(p, "add", p, (Integer) (-1));
        same(c, "nothing", value(p), BigInteger.ZERO);
        int small = 1 + r.nextInt((1 << 30) - 1);
        call(p, "copy", a);
        c.due("rest", (Integer) call(p, "divideSmall", (Integer) small), va.abs().mod(BigInteger.valueOf(small)).longValue());
        same(c, "small part", value(p).abs(), va.abs().divide(BigInteger.valueOf(small)));
        if (vb.signum() != 0) {
            Object q = number(r, 12);
            Object s = number(r, 12);
            call(a, "divide", b, q, s);
            same(c, va + " by " + vb, value(q), va.divide(vb));
            same(c, va + " modulo " + vb, value(a), va.remainder(vb));
        }
    }

    public static void main(String[] args) throws ReflectiveOperationException {
        Check c = new Check("BigOracleTest");
        BigOracleTest t = new BigOracleTest();
        Random r = new Random(1);
        int runs = args.length > 0 ? Integer.parseInt(args[0]) : 20000;
        for (int run = 0; run < runs; run++) {
            t.once(c, r);
        }
        c.end();
    }
}
