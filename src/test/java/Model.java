import java.math.BigInteger;

/** The document's promises, call by call, over Reference. */
final class Model {
    private final long[] scalar = new long[4];
    private final long[] point = new long[4];
    private BigInteger[] at = null;
    private BigInteger result = null;
    private int phase = 0;
    private int steps = 0;
    private int results = 0;

    int scalar(int k, long v) {
        return tell(scalar, k, v);
    }

    int point(int k, long v) {
        return tell(point, k, v);
    }

    int start() {
        if (phase != 0) {
            return 0;
        }
        at = Reference.begin(Reference.u(Reference.number(point)));
        steps = 0;
        phase = 1;
        return 1;
    }

    int step(int n) {
        if (phase != 1 || n < 1) {
            return -1;
        }
        BigInteger k = Reference.clamped(Reference.number(scalar));
        for (int i = 0; i < n && steps < Reference.STEPS; i++) {
            at = Reference.step(at, k.testBit(Reference.STEPS - 1 - steps));
            steps++;
        }
        return Reference.STEPS - steps;
    }

    int finish() {
        if (phase != 1 || steps < Reference.STEPS) {
            return 0;
        }
        result = Reference.result(at);
        results++;
        phase = 2;
        return 1;
    }

    int again() {
        if (phase != 2) {
            return 0;
        }
        System.arraycopy(Reference.words(result), 0, point, 0, 4);
        phase = 0;
        return 1;
    }

    int reset() {
        int was = phase;
        phase = 0;
        return was;
    }

    int phase() {
        return phase;
    }

    long out(int k) {
        return phase == 2 ? word(result, k) : 0;
    }

    long part(int which, int k) {
        return phase == 0 || which < 0 || which > 4 ? 0 : word(at[which], k);
    }

    long told(int which, int k) {
        switch (which) {
            case 0: return word(Reference.number(scalar), k);
            case 1: return word(Reference.number(point), k);
            case 2: return word(Reference.clamped(Reference.number(scalar)), k);
            case 3: return word(Reference.u(Reference.number(point)), k);
            default: return 0;
        }
    }

    int count(int what) {
        return what == 0 ? (phase == 0 ? 0 : steps) : what == 1 ? results : -1;
    }

    int check() {
        return 1;
    }

    private int tell(long[] told, int k, long v) {
        if (phase != 0 || k < 0 || k > 3) {
            return 0;
        }
        told[k] = v;
        return 1;
    }

    private static long word(BigInteger n, int k) {
        return k < 0 || k > 3 ? 0 : Reference.words(n)[k];
    }
}
