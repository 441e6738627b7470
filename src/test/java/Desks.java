/** The numbers and the ways to a desk that several tests share. */
final class Desks {
    static final long[] SCALAR = {0x0123456789abcdefL, 0xfedcba9876543210L, 0x0011223344556677L, -1L};
    static final long[] POINT = {0x1122334455667788L, -2L, 0x7766554433221100L, 0x8123456789abcdefL};
    static final long[] ZERO = {0, 0, 0, 0};
    static final long[] ONE = {1, 0, 0, 0};
    static final long[] P = {-19, -1, -1, Long.MAX_VALUE};
    static final long[] P_LESS_1 = {-20, -1, -1, Long.MAX_VALUE};
    static final long[] ALL_ONES = {-1, -1, -1, -1};

    static final int STEPS = 255;
    static final int PARTS = 5;
    static final int LONGS = 4;

    /** Indices below and above 0 .. 3, near and far; 1 << 6 and 1 << 8 for a shift or cast gone wrong. */
    static final int[] NO_LONG = {-1, -2, -4, 4, 5, 64, 256, Integer.MIN_VALUE, Integer.MAX_VALUE};

    private Desks() {
    }

    static LadderDesk telling(long[] scalar, long[] point) {
        LadderDesk desk = new LadderDesk();
        tellScalar(desk, scalar);
        tellPoint(desk, point);
        return desk;
    }

    static void tellScalar(LadderDesk desk, long[] scalar) {
        for (int k = 0; k < LONGS; k++) {
            desk.scalar(k, scalar[k]);
        }
    }

    static void tellPoint(LadderDesk desk, long[] point) {
        for (int k = 0; k < LONGS; k++) {
            desk.point(k, point[k]);
        }
    }

    static LadderDesk walking(long[] scalar, long[] point, int steps) {
        LadderDesk desk = telling(scalar, point);
        desk.start();
        if (steps > 0) {
            desk.step(steps);
        }
        return desk;
    }

    static LadderDesk finished(long[] scalar, long[] point) {
        LadderDesk desk = telling(scalar, point);
        walkToResult(desk);
        return desk;
    }

    static void walkToResult(LadderDesk desk) {
        desk.start();
        desk.step(STEPS);
        desk.finish();
    }

    static long[] out(LadderDesk desk) {
        long[] words = new long[LONGS];
        for (int k = 0; k < LONGS; k++) {
            words[k] = desk.out(k);
        }
        return words;
    }

    static long[] part(LadderDesk desk, int which) {
        long[] words = new long[LONGS];
        for (int k = 0; k < LONGS; k++) {
            words[k] = desk.part(which, k);
        }
        return words;
    }

    static long[] told(LadderDesk desk, int which) {
        long[] words = new long[LONGS];
        for (int k = 0; k < LONGS; k++) {
            words[k] = desk.told(which, k);
        }
        return words;
    }

    /** X2, Z2, X3, Z3 and U, one behind the other. */
    static long[] parts(LadderDesk desk) {
        long[] words = new long[PARTS * LONGS];
        for (int which = 0; which < PARTS; which++) {
            System.arraycopy(part(desk, which), 0, words, which * LONGS, LONGS);
        }
        return words;
    }

    static long[] withBit(long[] words, int bit, boolean set) {
        long[] changed = words.clone();
        long mask = 1L << (bit & 63);
        changed[bit >> 6] = set ? changed[bit >> 6] | mask : changed[bit >> 6] & ~mask;
        return changed;
    }
}
