import java.math.BigInteger;
import java.util.Arrays;

/** The boundary cases that the document names under Terms, each with a method of its own. */
public final class TermsTest {
    private static final long TOP_LONG = Long.MAX_VALUE;
    private static final long[] SMALL_2 = {2, 0, 0, 0};
    private static final long[] P_AND_1 = {-18, -1, -1, TOP_LONG};

    private static final Due DUE = new Due("TermsTest");

    public static void main(String[] args) {
        longsAreNumberedFromTheLowest();
        clampedBitsAre0();
        bit254Is1();
        otherBitsAreAsTold();
        clampedOnlyWhenUsed();
        pointsBit255IsNotUsed();
        pointsBit254IsUsed();
        uIsTheRestByP();
        uIsWalkedAsTheRest();
        ladderAtFirst();
        firstStepByHand();
        secondStepByHand();
        bitsFrom254Down();
        bits2To0AreWalkedAs0();
        resultWhereZ2Is0();
        resultsAreLessThanP();
        noneIsLess1();
        the512thCall();
        DUE.end();
    }

    private static void longsAreNumberedFromTheLowest() {
        DUE.about("256 bits each, told as four longs, numbered from 0, the first one the lowest 64 bits");
        for (int bit : new int[] {0, 63, 64, 127, 128, 191, 192, 254, 255}) {
            long[] one = Desks.withBit(Desks.ZERO, bit, true);
            DUE.sameLongs("scalar with bit " + bit, Desks.told(Desks.telling(one, Desks.ZERO), 0), one);
            DUE.sameLongs("point with bit " + bit, Desks.told(Desks.telling(Desks.ZERO, one), 1), one);
        }
        for (int bit : new int[] {62, 63, 64, 65, 126, 127, 128, 129, 190, 191, 192, 193}) {
            long[] one = Desks.withBit(Desks.ZERO, bit, true);
            BigInteger u = BigInteger.ONE.shiftLeft(bit);
            BigInteger[] at = Reference.step(Reference.begin(u), true);
            DUE.sameLongs("X2 of the point with bit " + bit,
                Desks.part(Desks.walking(Desks.ZERO, one, 1), 0), Reference.words(at[0]));
        }
    }

    private static void clampedBitsAre0() {
        DUE.about("CLAMPED: bits 0, 1, 2 and 255 are 0");
        for (int bit : new int[] {0, 1, 2, 255}) {
            for (long[] scalar : new long[][] {Desks.ZERO, Desks.ALL_ONES, Desks.SCALAR}) {
                sameClampedEitherWay(scalar, bit, false);
            }
        }
    }

    private static void bit254Is1() {
        DUE.about("CLAMPED: bit 254 is 1");
        for (long[] scalar : new long[][] {Desks.ZERO, Desks.ALL_ONES, Desks.SCALAR}) {
            sameClampedEitherWay(scalar, 254, true);
        }
    }

    /** A bit that is clamped is the same, told or not, and so is every number of the ladder. */
    private static void sameClampedEitherWay(long[] scalar, int bit, boolean due) {
        LadderDesk with = Desks.finished(Desks.withBit(scalar, bit, true), Desks.POINT);
        LadderDesk without = Desks.finished(Desks.withBit(scalar, bit, false), Desks.POINT);
        DUE.same("bit " + bit + " told 1, clamped", bitOf(Desks.told(with, 2), bit), due ? 1 : 0);
        DUE.same("bit " + bit + " told 0, clamped", bitOf(Desks.told(without, 2), bit), due ? 1 : 0);
        DUE.same("bit " + bit + " told 1, as told", bitOf(Desks.told(with, 0), bit), 1);
        DUE.same("bit " + bit + " told 0, as told", bitOf(Desks.told(without, 0), bit), 0);
        DUE.sameLongs("result, bit " + bit + " told or not", Desks.out(with), Desks.out(without));
        DUE.sameLongs("parts, bit " + bit + " told or not", Desks.parts(with), Desks.parts(without));
    }

    private static void otherBitsAreAsTold() {
        DUE.about("CLAMPED: the others as told");
        for (int bit = 3; bit <= 253; bit++) {
            LadderDesk with = Desks.telling(Desks.withBit(Desks.SCALAR, bit, true), Desks.POINT);
            LadderDesk without = Desks.telling(Desks.withBit(Desks.SCALAR, bit, false), Desks.POINT);
            DUE.same("bit " + bit + " told 1", bitOf(Desks.told(with, 2), bit), 1);
            DUE.same("bit " + bit + " told 0", bitOf(Desks.told(without, 2), bit), 0);
        }
        for (int bit : new int[] {3, 4, 63, 64, 127, 128, 191, 192, 252, 253}) {
            long[] with = Desks.out(Desks.finished(Desks.withBit(Desks.SCALAR, bit, true), Desks.POINT));
            long[] without = Desks.out(Desks.finished(Desks.withBit(Desks.SCALAR, bit, false), Desks.POINT));
            DUE.truth("bit " + bit + " tells in the result", !Arrays.equals(with, without));
        }
    }

    private static void clampedOnlyWhenUsed() {
        DUE.about("The scalar is CLAMPED when it is used");
        for (long[] scalar : new long[][] {Desks.ALL_ONES, {7, 0, 0, Long.MIN_VALUE}, Desks.ZERO}) {
            LadderDesk desk = Desks.telling(scalar, Desks.POINT);
            DUE.sameLongs("before start()", Desks.told(desk, 0), scalar);
            desk.start();
            DUE.sameLongs("behind start()", Desks.told(desk, 0), scalar);
            desk.step(Desks.STEPS);
            DUE.sameLongs("behind step()", Desks.told(desk, 0), scalar);
            desk.finish();
            DUE.sameLongs("behind finish()", Desks.told(desk, 0), scalar);
            desk.again();
            DUE.sameLongs("behind again()", Desks.told(desk, 0), scalar);
        }
    }

    private static void pointsBit255IsNotUsed() {
        DUE.about("Of the point bit 255 is not used");
        for (long[] point : new long[][] {Desks.ZERO, Desks.ONE, {9, 0, 0, 0}, Desks.POINT, Desks.P, Desks.ALL_ONES}) {
            LadderDesk with = Desks.finished(Desks.SCALAR, Desks.withBit(point, 255, true));
            LadderDesk without = Desks.finished(Desks.SCALAR, Desks.withBit(point, 255, false));
            DUE.same("as told 1", bitOf(Desks.told(with, 1), 255), 1);
            DUE.same("as told 0", bitOf(Desks.told(without, 1), 255), 0);
            DUE.sameLongs("U of it", Desks.told(with, 3), Desks.told(without, 3));
            DUE.sameLongs("parts of it", Desks.parts(with), Desks.parts(without));
            DUE.sameLongs("result of it", Desks.out(with), Desks.out(without));
        }
        DUE.sameLongs("U of bit 255 alone", Desks.told(Desks.telling(Desks.ZERO, new long[] {0, 0, 0, Long.MIN_VALUE}), 3), Desks.ZERO);
    }

    private static void pointsBit254IsUsed() {
        DUE.about("U is what its other bits tell: bit 254 is one of them");
        long[] bit254 = {0, 0, 0, 1L << 62};
        DUE.sameLongs("U of bit 254 alone", Desks.told(Desks.telling(Desks.ZERO, bit254), 3), bit254);
        long[] with = Desks.out(Desks.finished(Desks.SCALAR, Desks.withBit(Desks.POINT, 254, true)));
        long[] without = Desks.out(Desks.finished(Desks.SCALAR, Desks.withBit(Desks.POINT, 254, false)));
        DUE.truth("bit 254 tells in the result", !Arrays.equals(with, without));
    }

    private static void uIsTheRestByP() {
        DUE.about("U is what its other bits tell, rest P.");
        sameU(Desks.ZERO, Desks.ZERO);
        sameU(Desks.ONE, Desks.ONE);
        sameU(new long[] {-21, -1, -1, TOP_LONG}, new long[] {-21, -1, -1, TOP_LONG});
        sameU(Desks.P_LESS_1, Desks.P_LESS_1);
        for (int above = 0; above <= 18; above++) {
            sameU(new long[] {-19 + above, -1, -1, TOP_LONG}, new long[] {above, 0, 0, 0});
        }
        // Each of these is below P by one long alone.
        sameU(new long[] {TOP_LONG, -1, -1, TOP_LONG}, new long[] {TOP_LONG, -1, -1, TOP_LONG});
        sameU(new long[] {18, -1, -1, TOP_LONG}, new long[] {18, -1, -1, TOP_LONG});
        sameU(new long[] {-1, -2, -1, TOP_LONG}, new long[] {-1, -2, -1, TOP_LONG});
        sameU(new long[] {-1, -1, -2, TOP_LONG}, new long[] {-1, -1, -2, TOP_LONG});
        sameU(new long[] {-1, -1, -1, TOP_LONG - 1}, new long[] {-1, -1, -1, TOP_LONG - 1});
        sameU(new long[] {-19, TOP_LONG, -1, TOP_LONG}, new long[] {-19, TOP_LONG, -1, TOP_LONG});
        sameU(new long[] {-19, -1, TOP_LONG, TOP_LONG}, new long[] {-19, -1, TOP_LONG, TOP_LONG});
    }

    private static void sameU(long[] point, long[] u) {
        for (boolean top : new boolean[] {false, true}) {
            long[] told = Desks.withBit(point, 255, top);
            String row = "point " + Arrays.toString(told) + ", ";
            LadderDesk desk = Desks.telling(Desks.SCALAR, told);
            DUE.sameLongs(row + "told(3)", Desks.told(desk, 3), u);
            DUE.sameLongs(row + "told(1)", Desks.told(desk, 1), told);
            desk.start();
            DUE.sameLongs(row + "part(4)", Desks.part(desk, 4), u);
            DUE.sameLongs(row + "part(2) at first", Desks.part(desk, 2), u);
        }
    }

    private static void uIsWalkedAsTheRest() {
        DUE.about("all is reckoned with rests by P: a point from P on walks as its rest");
        for (int above = 0; above <= 18; above++) {
            LadderDesk high = Desks.finished(Desks.SCALAR, new long[] {-19 + above, -1, -1, TOP_LONG});
            LadderDesk low = Desks.finished(Desks.SCALAR, new long[] {above, 0, 0, 0});
            DUE.sameLongs("parts of P and " + above, Desks.parts(high), Desks.parts(low));
            DUE.sameLongs("result of P and " + above, Desks.out(high), Desks.out(low));
        }
    }

    private static void ladderAtFirst() {
        DUE.about("at first X2 is 1, Z2 0, X3 U, Z3 1");
        for (long[] u : new long[][] {Desks.ZERO, Desks.ONE, Desks.P_LESS_1}) {
            sameLadder(Desks.walking(Desks.ALL_ONES, u, 0), Desks.ONE, Desks.ZERO, u, Desks.ONE);
        }
        LadderDesk second = Desks.finished(Desks.SCALAR, new long[] {9, 0, 0, 0});
        long[] result = Desks.out(second);
        second.again();
        second.start();
        sameLadder(second, Desks.ONE, Desks.ZERO, result, Desks.ONE);
    }

    /** The numbers were reckoned by hand, so that not even the reference is trusted for the wrap-around. */
    private static void firstStepByHand() {
        DUE.about("A STEP, bit 254 first, with sums and differences that go over P and below 0");
        // A 1, B -1: E 0; D A + C B is 0.
        sameLadder(Desks.walking(Desks.ZERO, Desks.ZERO, 1), Desks.ZERO, Desks.ZERO, Desks.ONE, Desks.ZERO);
        // A 2, B 0, E 4: 16 times 121666.
        long[] four = {4, 0, 0, 0};
        sameLadder(Desks.walking(Desks.ZERO, Desks.ONE, 1), four, four, Desks.ZERO, new long[] {1946656, 0, 0, 0});
        // A 3, B 1, E 8: 8 times (9 + 973320).
        sameLadder(Desks.walking(Desks.ZERO, SMALL_2, 1), new long[] {16, 0, 0, 0}, new long[] {8, 0, 0, 0},
            new long[] {9, 0, 0, 0}, new long[] {7786632, 0, 0, 0});
        // A is P, so 0; B -2, E -4: 16 times 121665; U times 4 is -4.
        sameLadder(Desks.walking(Desks.ZERO, Desks.P_LESS_1, 1), four, new long[] {-23, -1, -1, TOP_LONG},
            Desks.ZERO, new long[] {1946640, 0, 0, 0});
        sameLadder(Desks.walking(Desks.ZERO, P_AND_1, 1), four, four, Desks.ZERO, new long[] {1946656, 0, 0, 0});
    }

    /** From X2 4, Z2 4, X3 0, Z3 1946656 with U 1, for bit 253 told 0 and told 1. */
    private static void secondStepByHand() {
        DUE.about("then 253: if it is 1, X2 and X3 change places, and Z2 and Z3; then once more");
        long[] c = {1946656, 0, 0, 0};
        // A 8, B 0: A A B B is 0, E 64, Z2 64 times 64 times 121666; D A is -8 C, C B 0.
        long z2 = 64L * 64L * 121666L;
        long square = 64L * c[0] * c[0];
        sameLadder(Desks.walking(Desks.ZERO, Desks.ONE, 2), Desks.ZERO, new long[] {z2, 0, 0, 0},
            new long[] {square, 0, 0, 0}, new long[] {square, 0, 0, 0});
        // In changed places A is C, B -C, E 0; D 0, C 8, so D A + C B is -8 C.
        BigInteger fourth = BigInteger.valueOf(c[0]).pow(4);
        sameLadder(Desks.walking(Desks.withBit(Desks.ZERO, 253, true), Desks.ONE, 2),
            new long[] {square, 0, 0, 0}, new long[] {square, 0, 0, 0}, Reference.words(fourth), Desks.ZERO);
    }

    private static void sameLadder(LadderDesk desk, long[] x2, long[] z2, long[] x3, long[] z3) {
        DUE.sameLongs("X2", Desks.part(desk, 0), x2);
        DUE.sameLongs("Z2", Desks.part(desk, 1), z2);
        DUE.sameLongs("X3", Desks.part(desk, 2), x3);
        DUE.sameLongs("Z3", Desks.part(desk, 3), z3);
    }

    /** The first step in which a bit tells is its own. */
    private static void bitsFrom254Down() {
        DUE.about("bit 254 first, then 253, down to 0");
        for (int bit = 253; bit >= 3; bit--) {
            LadderDesk with = Desks.walking(Desks.withBit(Desks.SCALAR, bit, true), Desks.POINT, 254 - bit);
            LadderDesk without = Desks.walking(Desks.withBit(Desks.SCALAR, bit, false), Desks.POINT, 254 - bit);
            DUE.sameLongs("before bit " + bit, Desks.parts(with), Desks.parts(without));
            with.step(1);
            without.step(1);
            DUE.truth("bit " + bit + " tells", !Arrays.equals(Desks.parts(with), Desks.parts(without)));
        }
    }

    /** Told 1, but clamped: the last three steps do not change places. */
    private static void bits2To0AreWalkedAs0() {
        DUE.about("down to 0: the clamped bits 2, 1 and 0 are steps too");
        LadderDesk desk = Desks.walking(Desks.ALL_ONES, Desks.POINT, 252);
        BigInteger[] at = Reference.walked(Reference.number(Desks.ALL_ONES), Reference.number(Desks.POINT), 252);
        for (int left = 2; left >= 0; left--) {
            DUE.same("step(1)", desk.step(1), left);
            at = Reference.step(at, false);
            sameLadder(desk, Reference.words(at[0]), Reference.words(at[1]), Reference.words(at[2]), Reference.words(at[3]));
        }
    }

    private static void resultWhereZ2Is0() {
        DUE.about("THE RESULT is X2 times Z2 to the power P - 2: 0 where Z2 is 0");
        BigInteger order8 = new BigInteger("325606250916557431795983626356110631294008115727848805560023387167927233504");
        BigInteger otherOrder8 = new BigInteger("39382357235489614581723060781553021112529911719440698176882885853963445705823");
        for (long[] point : new long[][] {Desks.ZERO, Desks.ONE, Desks.P_LESS_1, Desks.P, P_AND_1,
                Reference.words(order8), Reference.words(otherOrder8)}) {
            LadderDesk desk = Desks.finished(Desks.SCALAR, point);
            DUE.sameLongs("Z2", Desks.part(desk, 1), Desks.ZERO);
            DUE.sameLongs("the result", Desks.out(desk), Desks.ZERO);
            DUE.same("check()", desk.check(), 1);
            DUE.same("again()", desk.again(), 1);
            DUE.sameLongs("the point now", Desks.told(desk, 1), Desks.ZERO);
        }
        LadderDesk beside = Desks.finished(Desks.SCALAR, SMALL_2);
        DUE.truth("beside these Z2 is not 0", !Arrays.equals(Desks.part(beside, 1), Desks.ZERO));
        DUE.truth("nor is the result", !Arrays.equals(Desks.out(beside), Desks.ZERO));
    }

    private static void resultsAreLessThanP() {
        DUE.about("A ladder over the numbers less than 2 to the 255, less 19");
        LadderDesk desk = Desks.telling(Desks.ALL_ONES, Desks.ALL_ONES);
        for (int i = 0; i < 15; i++) {
            Desks.walkToResult(desk);
            DUE.truth("the result", isLessThanP(Desks.out(desk)));
            for (int which = 0; which < Desks.PARTS; which++) {
                DUE.truth("part " + which, isLessThanP(Desks.part(desk, which)));
            }
            desk.again();
        }
    }

    private static void noneIsLess1() {
        DUE.about("NONE = -1");
        DUE.same("NONE", LadderDesk.NONE, -1);
    }

    private static void the512thCall() {
        DUE.about("An object is used for at most 512 calls after it has been made");
        LadderDesk desk = new LadderDesk();
        for (int i = 1; i <= 127; i++) {
            desk.start();
            desk.step(Desks.STEPS);
            desk.finish();
            desk.reset();
        }
        DUE.same("call 509, count(1)", desk.count(1), 127);
        DUE.same("call 510, start()", desk.start(), 1);
        DUE.same("call 511, step(255)", desk.step(Desks.STEPS), 0);
        DUE.same("call 512, finish()", desk.finish(), 1);
        LadderDesk byOne = Desks.telling(Desks.SCALAR, Desks.POINT);
        byOne.start();
        for (int left = 254; left >= 0; left--) {
            DUE.same("step(1)", byOne.step(1), left);
        }
        byOne.finish();
        for (int call = 266; call <= 508; call++) {
            byOne.check();
        }
        DUE.sameLongs("calls 509 to 512", Desks.out(byOne), Desks.out(Desks.finished(Desks.SCALAR, Desks.POINT)));
    }

    private static long bitOf(long[] words, int bit) {
        return words[bit >> 6] >>> (bit & 63) & 1L;
    }

    private static boolean isLessThanP(long[] words) {
        return Reference.number(words).compareTo(Reference.P) < 0;
    }
}
