import java.math.BigInteger;

/** The numbers of nights, worked out apart from the class. */
final class Numbers {
    private static final BigInteger TIMES = BigInteger.valueOf(1103515245);
    private static final BigInteger MORE = BigInteger.valueOf(12345);
    private static final BigInteger BITS_31 = BigInteger.ONE.shiftLeft(31);

    private BigInteger last;

    Numbers(long seed) {
        last = BigInteger.valueOf(seed);
    }

    int next() {
        last = last.multiply(TIMES).add(MORE).mod(BITS_31);
        return last.divide(BigInteger.valueOf(65536)).intValueExact();
    }

    /** What the next night() answers. */
    int nextNight() {
        switch (next() % 3) {
            case 0:
                return 1 + next() % 9;
            case 1:
                return -1 - next() % 5;
            default:
                return 0;
        }
    }

    /** What the first night() by a seed answers. */
    static int night(long seed) {
        return new Numbers(seed).nextNight();
    }
}
