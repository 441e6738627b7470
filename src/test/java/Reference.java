import java.math.BigInteger;

/** The document's Terms once more, by BigInteger, so that no limb of the program is trusted. */
final class Reference {
    static final BigInteger P = BigInteger.ONE.shiftLeft(255).subtract(BigInteger.valueOf(19));
    static final int STEPS = 255;

    private Reference() {
    }

    static BigInteger number(long[] words) {
        BigInteger n = BigInteger.ZERO;
        for (int k = 3; k >= 0; k--) {
            n = n.shiftLeft(64).or(unsigned(words[k]));
        }
        return n;
    }

    static long[] words(BigInteger n) {
        long[] words = new long[4];
        for (int k = 0; k < 4; k++) {
            words[k] = n.shiftRight(64 * k).longValue();
        }
        return words;
    }

    static BigInteger clamped(BigInteger scalar) {
        return scalar.clearBit(0).clearBit(1).clearBit(2).clearBit(255).setBit(254);
    }

    static BigInteger u(BigInteger point) {
        return point.clearBit(255).mod(P);
    }

    static BigInteger[] begin(BigInteger u) {
        return new BigInteger[] {BigInteger.ONE, BigInteger.ZERO, u, BigInteger.ONE, u};
    }

    /** The ladder x2, z2, x3, z3, u after one step more. */
    static BigInteger[] step(BigInteger[] at, boolean bit) {
        BigInteger x2 = bit ? at[2] : at[0];
        BigInteger z2 = bit ? at[3] : at[1];
        BigInteger x3 = bit ? at[0] : at[2];
        BigInteger z3 = bit ? at[1] : at[3];
        BigInteger a = x2.add(z2);
        BigInteger b = x2.subtract(z2);
        BigInteger e = a.multiply(a).subtract(b.multiply(b));
        BigInteger da = x3.subtract(z3).multiply(a);
        BigInteger cb = x3.add(z3).multiply(b);
        BigInteger newX2 = a.multiply(a).multiply(b).multiply(b).mod(P);
        BigInteger newZ2 = e.multiply(a.multiply(a).add(BigInteger.valueOf(121665).multiply(e))).mod(P);
        BigInteger newX3 = da.add(cb).pow(2).mod(P);
        BigInteger newZ3 = at[4].multiply(da.subtract(cb).pow(2)).mod(P);
        return bit
                ? new BigInteger[] {newX3, newZ3, newX2, newZ2, at[4]}
                : new BigInteger[] {newX2, newZ2, newX3, newZ3, at[4]};
    }

    static BigInteger[] walked(BigInteger scalar, BigInteger point, int steps) {
        BigInteger k = clamped(scalar);
        BigInteger[] at = begin(u(point));
        for (int i = 0; i < steps; i++) {
            at = step(at, k.testBit(STEPS - 1 - i));
        }
        return at;
    }

    static BigInteger result(BigInteger[] at) {
        return at[0].multiply(at[1].modPow(P.subtract(BigInteger.TWO), P)).mod(P);
    }

    private static BigInteger unsigned(long v) {
        return new BigInteger(Long.toUnsignedString(v));
    }
}
