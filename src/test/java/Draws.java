import java.math.BigInteger;

/** The document's draws, reckoned without a bound so that nothing goes round by itself. */
final class Draws {
    private static final BigInteger FACTOR = BigInteger.valueOf(1103515245);
    private static final BigInteger MORE = BigInteger.valueOf(12345);
    private static final BigInteger ROUND = BigInteger.valueOf(2147483648L);
    private BigInteger x;

    Draws(int x) {
        this.x = BigInteger.valueOf(x);
    }

    int next() {
        x = x.multiply(FACTOR).add(MORE).mod(ROUND);
        return x.divide(BigInteger.valueOf(65536)).intValueExact();
    }
}
