import java.math.BigInteger;

/** The checksum of promise 23 over numbers that a test tells, without the wrap-around until the end. */
final class Numbers {
    private BigInteger d = BigInteger.valueOf(353);

    Numbers add(long... numbers) {
        for (long x : numbers) {
            d = d.multiply(BigInteger.valueOf(31)).add(BigInteger.valueOf(x));
        }
        return this;
    }

    Numbers addText(String text) {
        for (char b : text.toCharArray()) {
            add(b);
        }
        return this;
    }

    boolean isWide() {
        return d.bitLength() > 63;
    }

    long digest() {
        return d.longValue();
    }
}
