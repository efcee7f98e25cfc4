import java.math.BigInteger;

/** An exact fraction, as short as can be. */
final class Ratio implements Comparable<Ratio> {
    static final Ratio ZERO = of(0, 1);
    final BigInteger top;
    final BigInteger bottom;

    private Ratio(BigInteger top, BigInteger bottom) {
        BigInteger shared = top.gcd(bottom);
        this.top = top.divide(shared);
        this.bottom = bottom.divide(shared);
    }

    static Ratio of(long top, long bottom) {
        return new Ratio(BigInteger.valueOf(top), BigInteger.valueOf(bottom));
    }

    Ratio plus(Ratio other) {
        return new Ratio(top.multiply(other.bottom).add(other.top.multiply(bottom)), bottom.multiply(other.bottom));
    }

    Ratio minus(Ratio other) {
        return plus(new Ratio(other.top.negate(), other.bottom));
    }

    Ratio times(Ratio other) {
        return new Ratio(top.multiply(other.top), bottom.multiply(other.bottom));
    }

    boolean isWhole() {
        return bottom.equals(BigInteger.ONE);
    }

    /** What is beyond the whole number below it. */
    Ratio beyond() {
        return new Ratio(top.mod(bottom), bottom);
    }

    double asDouble() {
        return (double) top.longValueExact() / (double) bottom.longValueExact();
    }

    @Override
    public int compareTo(Ratio other) {
        return top.multiply(other.bottom).compareTo(other.top.multiply(bottom));
    }

    @Override
    public boolean equals(Object other) {
        return other instanceof Ratio && compareTo((Ratio) other) == 0;
    }

    @Override
    public int hashCode() {
        return top.hashCode() * 31 + bottom.hashCode();
    }
}
