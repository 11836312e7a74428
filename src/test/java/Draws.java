import java.math.BigInteger;

/** The numbers by which load makes packets, with BigInteger: no overflow can be the same as the class's. */
final class Draws {
    private static final BigInteger FACTOR = BigInteger.valueOf(1103515245);
    private static final BigInteger SUMMAND = BigInteger.valueOf(12345);
    private static final BigInteger RANGE = BigInteger.ONE.shiftLeft(31);

    private BigInteger x;

    Draws(int seed) {
        x = BigInteger.valueOf(seed);
    }

    int next() {
        x = FACTOR.multiply(x).add(SUMMAND).mod(RANGE);
        return x.intValueExact() / 65536;
    }
}
