import java.util.Arrays;

/** A desk for one ladder over the numbers less than P, which is 2 to the 255, less 19. */
public final class LadderDesk {
    public static final int NONE = -1;

    private static final int TELLING = 0;
    private static final int WALKING = 1;
    private static final int FINISHED = 2;

    private static final int LONGS = 4;
    private static final int STEPS = 255;
    private static final long BITS_BELOW_63 = 0x7fff_ffff_ffff_ffffL;

    private final long[] scalarTold;
    private final long[] pointTold;
    private final long[] result;
    private final long[] answer;
    private final Ladder ladder;
    private int phaseNow;
    private int stepsMade;
    private int resultsHad;

    public LadderDesk() {
        scalarTold = new long[LONGS];
        pointTold = new long[LONGS];
        result = new long[LONGS];
        answer = new long[LONGS];
        ladder = new Ladder();
        phaseNow = TELLING;
        stepsMade = 0;
        resultsHad = 0;
    }

    public int scalar(int k, long v) {
        return tell(scalarTold, k, v);
    }

    public int point(int k, long v) {
        return tell(pointTold, k, v);
    }

    public int start() {
        if (phaseNow != TELLING) {
            return 0;
        }
        writeU(answer);
        ladder.begin(answer);
        stepsMade = 0;
        phaseNow = WALKING;
        return 1;
    }

    public int step(int n) {
        if (phaseNow != WALKING || n < 1) {
            return NONE;
        }
        int more = Math.min(n, STEPS - stepsMade);
        for (int i = 0; i < more; i++) {
            ladder.walk(clampedBit(STEPS - 1 - stepsMade));
            stepsMade++;
        }
        return STEPS - stepsMade;
    }

    public int finish() {
        if (phaseNow != WALKING || stepsMade != STEPS) {
            return 0;
        }
        ladder.writeResult(result);
        resultsHad++;
        phaseNow = FINISHED;
        return 1;
    }

    public int again() {
        if (phaseNow != FINISHED) {
            return 0;
        }
        System.arraycopy(result, 0, pointTold, 0, LONGS);
        phaseNow = TELLING;
        return 1;
    }

    public int reset() {
        int before = phaseNow;
        phaseNow = TELLING;
        return before;
    }

    public int phase() {
        return phaseNow;
    }

    public long out(int k) {
        if (phaseNow != FINISHED || !isLong(k)) {
            return 0L;
        }
        return result[k];
    }

    public long part(int which, int k) {
        if (phaseNow == TELLING || !Ladder.isPart(which) || !isLong(k)) {
            return 0L;
        }
        ladder.writePart(answer, which);
        return answer[k];
    }

    public long told(int which, int k) {
        if (!isLong(k)) {
            return 0L;
        }
        switch (which) {
            case 0:
                return scalarTold[k];
            case 1:
                return pointTold[k];
            case 2:
                return clampedLong(k);
            case 3:
                writeU(answer);
                return answer[k];
            default:
                return 0L;
        }
    }

    public int count(int what) {
        switch (what) {
            case 0:
                return phaseNow == TELLING ? 0 : stepsMade;
            case 1:
                return resultsHad;
            default:
                return NONE;
        }
    }

    public int check() {
        if (phaseNow != FINISHED) {
            return 1;
        }
        return ladder.agreesWith(result) ? 1 : 0;
    }

    private int tell(long[] told, int k, long v) {
        if (phaseNow != TELLING || !isLong(k)) {
            return 0;
        }
        told[k] = v;
        return 1;
    }

    private static boolean isLong(int k) {
        return k >= 0 && k < LONGS;
    }

    /** The scalar is kept as told, and clamped only where it is used, since told() asks for both. */
    private long clampedLong(int k) {
        long v = scalarTold[k];
        if (k == 0) {
            return v & ~7L;
        }
        if (k == LONGS - 1) {
            return (v & BITS_BELOW_63) | (1L << 62);
        }
        return v;
    }

    private boolean clampedBit(int bit) {
        return (clampedLong(bit >> 6) >>> (bit & 63) & 1L) != 0L;
    }

    private void writeU(long[] words) {
        System.arraycopy(pointTold, 0, words, 0, LONGS);
        words[LONGS - 1] &= BITS_BELOW_63;
        Field.takeRest(words);
    }

    /** The four numbers of the ladder and U, with the rows that a step needs, made once. */
    private static final class Ladder {
        private static final int PARTS = 5;

        private final Field field;
        private final long[] u;
        private long[] x2;
        private long[] z2;
        private long[] x3;
        private long[] z3;
        private final long[] a;
        private final long[] b;
        private final long[] c;
        private final long[] d;
        private final long[] e;
        private final long[] aa;
        private final long[] bb;
        private final long[] da;
        private final long[] cb;
        private final long[] spare;
        private final long[] left;
        private final long[] right;

        Ladder() {
            field = new Field();
            u = Field.newRow();
            x2 = Field.newRow();
            z2 = Field.newRow();
            x3 = Field.newRow();
            z3 = Field.newRow();
            a = Field.newRow();
            b = Field.newRow();
            c = Field.newRow();
            d = Field.newRow();
            e = Field.newRow();
            aa = Field.newRow();
            bb = Field.newRow();
            da = Field.newRow();
            cb = Field.newRow();
            spare = Field.newRow();
            left = new long[LONGS];
            right = new long[LONGS];
        }

        static boolean isPart(int which) {
            return which >= 0 && which < PARTS;
        }

        void begin(long[] uWords) {
            Field.read(u, uWords);
            Field.setSmall(x2, 1L);
            Field.setSmall(z2, 0L);
            Field.read(x3, uWords);
            Field.setSmall(z3, 1L);
        }

        void walk(boolean bit) {
            if (bit) {
                changePlaces();
            }
            makeSums();
            makeDouble();
            makeOther();
            if (bit) {
                changePlaces();
            }
        }

        void writePart(long[] words, int which) {
            field.write(words, rowOf(which));
        }

        void writeResult(long[] words) {
            field.invert(spare, z2);
            field.multiply(spare, x2, spare);
            field.write(words, spare);
        }

        boolean agreesWith(long[] result) {
            field.write(left, z2);
            if (isZero(left)) {
                return isZero(result);
            }
            Field.read(spare, result);
            field.multiply(spare, spare, z2);
            field.write(left, spare);
            field.write(right, x2);
            return areEqual(left, right);
        }

        private long[] rowOf(int which) {
            switch (which) {
                case 0:
                    return x2;
                case 1:
                    return z2;
                case 2:
                    return x3;
                case 3:
                    return z3;
                default:
                    return u;
            }
        }

        private void changePlaces() {
            long[] x = x2;
            x2 = x3;
            x3 = x;
            long[] z = z2;
            z2 = z3;
            z3 = z;
        }

        private void makeSums() {
            Field.add(a, x2, z2);
            Field.subtract(b, x2, z2);
            Field.add(c, x3, z3);
            Field.subtract(d, x3, z3);
        }

        private void makeDouble() {
            field.multiply(aa, a, a);
            field.multiply(bb, b, b);
            Field.subtract(e, aa, bb);
            field.multiply(x2, aa, bb);
            Field.scale(spare, e);
            Field.add(spare, aa, spare);
            field.multiply(z2, e, spare);
        }

        private void makeOther() {
            field.multiply(da, d, a);
            field.multiply(cb, c, b);
            Field.add(spare, da, cb);
            field.multiply(x3, spare, spare);
            Field.subtract(spare, da, cb);
            field.multiply(spare, spare, spare);
            field.multiply(z3, u, spare);
        }

        private static boolean isZero(long[] words) {
            return (words[0] | words[1] | words[2] | words[3]) == 0L;
        }

        private static boolean areEqual(long[] one, long[] other) {
            for (int k = 0; k < LONGS; k++) {
                if (one[k] != other[k]) {
                    return false;
                }
            }
            return true;
        }
    }

    /**
     * Reckoning with rests by P, on rows of ten limbs of 26 bits, the lowest first.
     *
     * A row is SETTLED when limb 0 is less than 2^26 + 2^24 and each other one less than 2^26; what
     * multiply, read and setSmall write is settled. A sum or difference of two settled rows is not,
     * nor is what scale makes of such a difference, nor that and a settled row added; but no limb of
     * these is below 0, limb 0 is less than 2^29 and each other one less than 2^28. So ten products
     * of two limbs stay below 2^62, and multiply takes all of these rows as they are.
     */
    private static final class Field {
        private static final int LIMBS = 10;
        private static final int BITS = 26;
        private static final long MASK = (1L << BITS) - 1L;

        /** 2^260 leaves the rest 32 times 19. */
        private static final long REST_OF_260 = 608L;
        private static final long REST_OF_255 = 19L;

        private static final int TOP_BITS = 21;
        private static final long TOP_MASK = (1L << TOP_BITS) - 1L;

        /** 64 times P, shared out so that every limb is greater than one of a settled row. */
        private static final long BIAS_FIRST = (1L << 27) - 1216L;
        private static final long BIAS_OTHERS = (1L << 27) - 2L;

        private static final long FACTOR = 121665L;

        private final long[] wide;
        private final long[] whole;

        Field() {
            wide = new long[2 * LIMBS];
            whole = newRow();
        }

        static long[] newRow() {
            return new long[LIMBS];
        }

        static void setSmall(long[] row, long v) {
            Arrays.fill(row, 0L);
            row[0] = v;
        }

        static void add(long[] to, long[] f, long[] g) {
            for (int i = 0; i < LIMBS; i++) {
                to[i] = f[i] + g[i];
            }
        }

        /** Takes a settled g: the bias keeps every limb from falling below 0. */
        static void subtract(long[] to, long[] f, long[] g) {
            to[0] = f[0] + BIAS_FIRST - g[0];
            for (int i = 1; i < LIMBS; i++) {
                to[i] = f[i] + BIAS_OTHERS - g[i];
            }
        }

        static void scale(long[] to, long[] f) {
            for (int i = 0; i < LIMBS; i++) {
                to[i] = f[i] * FACTOR;
            }
            carry(to);
        }

        /** The product is gathered in a row of its own, so that the target may be f or g. */
        void multiply(long[] to, long[] f, long[] g) {
            gather(f, g);
            carryWide();
            for (int i = 0; i < LIMBS; i++) {
                to[i] = wide[i] + REST_OF_260 * wide[i + LIMBS];
            }
            carry(to);
        }

        /** To the power P - 2, whose bits 254 to 0 are all 1 but for bits 4 and 2. */
        void invert(long[] to, long[] f) {
            System.arraycopy(f, 0, to, 0, LIMBS);
            for (int bit = 253; bit >= 0; bit--) {
                multiply(to, to, to);
                if (bit != 4 && bit != 2) {
                    multiply(to, to, f);
                }
            }
        }

        /** Takes words that tell a number less than P. */
        static void read(long[] row, long[] words) {
            for (int i = 0; i < LIMBS; i++) {
                int word = i * BITS >> 6;
                int shift = i * BITS & 63;
                long v = words[word] >>> shift;
                if (shift + BITS > 64 && word + 1 < LONGS) {
                    v |= words[word + 1] << (64 - shift);
                }
                row[i] = v & MASK;
            }
        }

        /** Takes a settled row; the words tell the one number less than P that it stands for. */
        void write(long[] words, long[] row) {
            System.arraycopy(row, 0, whole, 0, LIMBS);
            // The first fold leaves less than 2^255 + 19 * 33, the second less than 2^255.
            foldTop(whole);
            foldTop(whole);
            join(words, whole);
            takeRest(words);
        }

        /** Takes words below 2^255; only the nineteen numbers from P on need P taken off. */
        static void takeRest(long[] words) {
            boolean high = words[3] == BITS_BELOW_63 && words[2] == -1L && words[1] == -1L;
            if (high && words[0] >= -REST_OF_255 && words[0] < 0L) {
                words[0] += REST_OF_255;
                words[1] = 0L;
                words[2] = 0L;
                words[3] = 0L;
            }
        }

        private void gather(long[] f, long[] g) {
            Arrays.fill(wide, 0L);
            for (int i = 0; i < LIMBS; i++) {
                long v = f[i];
                for (int j = 0; j < LIMBS; j++) {
                    wide[i + j] += v * g[j];
                }
            }
        }

        /** Without this the upper limbs, times 608, would go beyond a long. */
        private void carryWide() {
            for (int i = 0; i < 2 * LIMBS - 1; i++) {
                wide[i + 1] += wide[i] >> BITS;
                wide[i] &= MASK;
            }
        }

        private static void carry(long[] row) {
            long over = 0L;
            for (int i = 0; i < LIMBS; i++) {
                long v = row[i] + over;
                row[i] = v & MASK;
                over = v >> BITS;
            }
            row[0] += REST_OF_260 * over;
        }

        private static void foldTop(long[] row) {
            for (int i = 0; i < LIMBS - 1; i++) {
                row[i + 1] += row[i] >> BITS;
                row[i] &= MASK;
            }
            row[0] += REST_OF_255 * (row[LIMBS - 1] >> TOP_BITS);
            row[LIMBS - 1] &= TOP_MASK;
        }

        private static void join(long[] words, long[] row) {
            Arrays.fill(words, 0L);
            for (int i = 0; i < LIMBS; i++) {
                int word = i * BITS >> 6;
                int shift = i * BITS & 63;
                words[word] |= row[i] << shift;
                if (shift + BITS > 64 && word + 1 < LONGS) {
                    words[word + 1] |= row[i] >>> (64 - shift);
                }
            }
        }
    }
}
