import java.math.BigInteger;

/** A fraction in lowest terms, of numbers without bounds. */
record Ratio(BigInteger upper, BigInteger lower) {
    static Ratio of(long upper, long lower) {
        return lowest(BigInteger.valueOf(upper), BigInteger.valueOf(lower));
    }

    private static Ratio lowest(BigInteger upper, BigInteger lower) {
        BigInteger divisor = upper.gcd(lower).multiply(BigInteger.valueOf(lower.signum()));
        return new Ratio(upper.divide(divisor), lower.divide(divisor));
    }

    Ratio plus(Ratio o) {
        return lowest(upper.multiply(o.lower).add(o.upper.multiply(lower)), lower.multiply(o.lower));
    }

    Ratio minus(Ratio o) {
        return plus(new Ratio(o.upper.negate(), o.lower));
    }

    Ratio times(Ratio o) {
        return lowest(upper.multiply(o.upper), lower.multiply(o.lower));
    }

    long tell(int what) {
        return (what == 0 ? upper : lower).longValueExact();
    }
}
