import java.math.BigInteger;

/** A fraction of any size, always in lowest terms. */
final class Share implements Comparable<Share> {
    static final Share NOUGHT = of(0, 1);
    final BigInteger up;
    final BigInteger low;

    private Share(BigInteger up, BigInteger low) {
        BigInteger cut = up.gcd(low).multiply(BigInteger.valueOf(low.signum()));
        this.up = up.divide(cut);
        this.low = low.divide(cut);
    }

    static Share of(long up, long low) {
        return new Share(BigInteger.valueOf(up), BigInteger.valueOf(low));
    }

    Share plus(Share s) {
        return new Share(up.multiply(s.low).add(s.up.multiply(low)), low.multiply(s.low));
    }

    Share times(Share s) {
        return new Share(up.multiply(s.up), low.multiply(s.low));
    }

    @Override
    public int compareTo(Share s) {
        return up.multiply(s.low).compareTo(s.up.multiply(low));
    }
}
