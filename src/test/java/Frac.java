import java.math.BigInteger;

/** Exact fractions for the tests' own programs. */
final class Frac implements Comparable<Frac> {
    static final Frac ZERO = of(0);
    static final Frac ONE = of(1);
    final BigInteger up;
    final BigInteger low;

    private Frac(BigInteger up, BigInteger low) {
        BigInteger g = up.gcd(low);
        if (low.signum() < 0) {
            g = g.negate();
        }
        this.up = up.divide(g);
        this.low = low.divide(g);
    }

    static Frac of(long v) {
        return new Frac(BigInteger.valueOf(v), BigInteger.ONE);
    }

    static Frac of(long a, long b) {
        return new Frac(BigInteger.valueOf(a), BigInteger.valueOf(b));
    }

    Frac plus(Frac o) {
        return new Frac(up.multiply(o.low).add(o.up.multiply(low)), low.multiply(o.low));
    }

    Frac minus(Frac o) {
        return plus(o.negated());
    }

    Frac times(Frac o) {
        return new Frac(up.multiply(o.up), low.multiply(o.low));
    }

    Frac times(long v) {
        return times(of(v));
    }

    Frac by(Frac o) {
        return new Frac(up.multiply(o.low), low.multiply(o.up));
    }

    Frac negated() {
        return new Frac(up.negate(), low);
    }

    int sign() {
        return up.signum();
    }

    @Override
    public int compareTo(Frac o) {
        return up.multiply(o.low).compareTo(o.up.multiply(low));
    }

    BigInteger whole() {
        return up.divide(low);
    }

    /** As parts -1, 0, 1, .. tell a fraction by eighteen digits. */
    long part(int part) {
        if (part == -1) {
            return up.signum();
        }
        BigInteger b = part % 2 == 0 ? up.abs() : low;
        BigInteger unit = BigInteger.TEN.pow(18);
        for (int k = 0; k < part / 2; k++) {
            b = b.divide(unit);
        }
        return b.mod(unit).longValueExact();
    }

    @Override
    public String toString() {
        return up + "/" + low;
    }
}
