import java.math.BigInteger;

/**
 * The boundary cases that promises 1 to 14 name, each sentence with a method of its own: what is
 * done and told at the boundary and on both sides of it. That nothing is done beyond it stands in
 * RefusedCallsTest.
 */
public final class BoundariesTest {
    private static final long[] EDGES = {0L, 1L, -1L, Long.MIN_VALUE, Long.MAX_VALUE};
    private static final int[] NO_PART = {-1, -2, 5, 6, 64, 256, Integer.MIN_VALUE, Integer.MAX_VALUE};
    private static final int[] NO_COUNT = {-1, -2, 2, 3, 4, 256, Integer.MIN_VALUE, Integer.MAX_VALUE};

    private static final Due DUE = new Due("BoundariesTest");

    public static void main(String[] args) {
        newObjectIsEmpty();
        newObjectsAreApart();
        scalarFromK0ToK3();
        pointFromK0ToK3();
        startMakesNoStep();
        stepFewerThanLeft();
        stepAsManyAsLeft();
        stepMoreThanLeft();
        stepWithNoneLeft();
        stepFrom1();
        finishAtAllSteps();
        finishTakesNoOldSteps();
        againMakesTheResultThePoint();
        againKeepsTheScalarAsTold();
        resetTellsThePhase();
        resetKeepsWhatWasTold();
        phaseTurnsOnlyWhereItMust();
        outWithoutAResult();
        outWithNoSuchLong();
        partInPhase0();
        partWithNoSuchLong();
        partWithNoSuchNumber();
        partIsLessThanP();
        toldWithNoSuchLong();
        toldWithNoSuchNumber();
        toldInEveryPhase();
        count0InPhase0();
        count0AtItsEdges();
        count1CountsResultsOnly();
        countOfOthers();
        checkWithoutAResult();
        checkWithAResult();
        checkWhereZ2Is0();
        checkWouldTell0();
        checkLooksAtEachLong();
        DUE.end();
    }

    private static void newObjectIsEmpty() {
        DUE.about("1: Phase 0; scalar and point 0.");
        LadderDesk desk = new LadderDesk();
        DUE.same("phase()", desk.phase(), 0);
        DUE.sameLongs("scalar", Desks.told(desk, 0), Desks.ZERO);
        DUE.sameLongs("point", Desks.told(desk, 1), Desks.ZERO);
        DUE.sameLongs("scalar clamped", Desks.told(desk, 2), new long[] {0, 0, 0, 1L << 62});
        DUE.sameLongs("U", Desks.told(desk, 3), Desks.ZERO);
        DUE.sameLongs("result", Desks.out(desk), Desks.ZERO);
        DUE.same("count(0)", desk.count(0), 0);
        DUE.same("count(1)", desk.count(1), 0);
        DUE.same("check()", desk.check(), 1);
    }

    private static void newObjectsAreApart() {
        DUE.about("1: a new object, while others are used");
        LadderDesk walked = Desks.finished(Desks.SCALAR, Desks.POINT);
        Picture before = new Picture(walked);
        LadderDesk fresh = new LadderDesk();
        new Picture(walked).sameAs(before, DUE, "the one with a result, another one made");
        new Picture(fresh).sameAs(new Picture(new LadderDesk()), DUE, "beside one with a result");
        Desks.tellScalar(fresh, Desks.ALL_ONES);
        Desks.walkToResult(fresh);
        new Picture(walked).sameAs(before, DUE, "the one with a result, another one walked");
    }

    private static void scalarFromK0ToK3() {
        DUE.about("2: A long of the scalar, in phase 0: 1");
        for (Stand stand : Stand.inPhase(0)) {
            sameTelling(stand, 0);
        }
    }

    private static void pointFromK0ToK3() {
        DUE.about("3: A long of the point, likewise.");
        for (Stand stand : Stand.inPhase(0)) {
            sameTelling(stand, 1);
        }
    }

    /** Only the long that is told changes; which is 0 for the scalar, 1 for the point. */
    private static void sameTelling(Stand stand, int which) {
        for (int k = 0; k < Desks.LONGS; k++) {
            for (long v : EDGES) {
                LadderDesk desk = stand.reach();
                String row = stand + ": long " + k + " told as " + v;
                long[] want = Desks.told(desk, which);
                long[] other = Desks.told(desk, 1 - which);
                want[k] = v;
                DUE.same(row, which == 0 ? desk.scalar(k, v) : desk.point(k, v), 1);
                DUE.sameLongs(row + ", what is told", Desks.told(desk, which), want);
                DUE.sameLongs(row + ", the other", Desks.told(desk, 1 - which), other);
                DUE.same(row + ", phase()", desk.phase(), 0);
            }
        }
    }

    private static void startMakesNoStep() {
        DUE.about("4: From phase 0 to 1, no step made: 1");
        for (Stand stand : Stand.inPhase(0)) {
            LadderDesk desk = stand.reach();
            long[] u = Desks.told(desk, 3);
            DUE.same(stand + ": start()", desk.start(), 1);
            DUE.same(stand + ": phase()", desk.phase(), 1);
            DUE.same(stand + ": count(0)", desk.count(0), 0);
            DUE.sameLongs(stand + ": X2", Desks.part(desk, 0), Desks.ONE);
            DUE.sameLongs(stand + ": Z2", Desks.part(desk, 1), Desks.ZERO);
            DUE.sameLongs(stand + ": X3", Desks.part(desk, 2), u);
            DUE.sameLongs(stand + ": Z3", Desks.part(desk, 3), Desks.ONE);
            DUE.same(stand + ": all are left but 1", desk.step(1), 254);
        }
    }

    private static void stepFewerThanLeft() {
        DUE.about("5: Makes n steps more: how many are left");
        for (int made : new int[] {0, 1, 100, 250, 253}) {
            int left = 255 - made;
            for (int n : new int[] {1, left - 1}) {
                sameStep(made, n, left - n);
            }
        }
    }

    private static void stepAsManyAsLeft() {
        DUE.about("5: all that are left, if these are less (as many as n)");
        for (int made : new int[] {0, 1, 100, 253, 254}) {
            sameStep(made, 255 - made, 0);
        }
    }

    private static void stepMoreThanLeft() {
        DUE.about("5: all that are left, if these are less");
        for (int made : new int[] {0, 1, 100, 253, 254}) {
            for (int n : new int[] {255 - made + 1, 256, 512, Integer.MAX_VALUE - 1, Integer.MAX_VALUE}) {
                sameStep(made, n, 0);
            }
        }
    }

    private static void stepWithNoneLeft() {
        DUE.about("5: all that are left, if these are less (none)");
        for (int n : new int[] {1, 2, 255, Integer.MAX_VALUE}) {
            sameStep(255, n, 0);
        }
    }

    private static void stepFrom1() {
        DUE.about("5: NONE, and nothing is done, when n is less than 1. (both sides)");
        LadderDesk desk = Desks.walking(Desks.SCALAR, Desks.POINT, 7);
        DUE.same("step(0)", desk.step(0), LadderDesk.NONE);
        sameParts("after 7", desk, 7);
        DUE.same("step(1)", desk.step(1), 247);
        sameParts("after 8", desk, 8);
        DUE.same("step(-1)", desk.step(-1), LadderDesk.NONE);
        sameParts("after 8 still", desk, 8);
    }

    private static void sameStep(int made, int n, int left) {
        String row = "after " + made + " step(" + n + ")";
        LadderDesk desk = Desks.walking(Desks.SCALAR, Desks.POINT, made);
        DUE.same(row, desk.step(n), left);
        DUE.same(row + ", count(0)", desk.count(0), 255 - left);
        DUE.same(row + ", phase()", desk.phase(), 1);
        sameParts(row, desk, 255 - left);
    }

    private static void finishAtAllSteps() {
        DUE.about("6: From phase 1, all 255 steps made, to 2: 1; 0 else.");
        LadderDesk desk = Desks.walking(Desks.SCALAR, Desks.POINT, 253);
        DUE.same("253 made", desk.finish(), 0);
        DUE.same("253 made, phase()", desk.phase(), 1);
        desk.step(1);
        DUE.same("254 made", desk.finish(), 0);
        DUE.same("254 made, phase()", desk.phase(), 1);
        DUE.same("the last step", desk.step(1), 0);
        DUE.same("255 made, phase() before", desk.phase(), 1);
        DUE.same("255 made", desk.finish(), 1);
        DUE.same("255 made, phase()", desk.phase(), 2);
        DUE.sameLongs("the result", Desks.out(desk), result(Desks.SCALAR, Desks.POINT));
        sameParts("the ladder is left", desk, 255);
        DUE.same("in phase 2", desk.finish(), 0);
        DUE.same("in phase 2, phase()", desk.phase(), 2);
    }

    private static void finishTakesNoOldSteps() {
        DUE.about("6: all 255 steps made: those of an earlier ladder are not");
        for (Stand stand : Stand.inPhase(0)) {
            LadderDesk desk = stand.reach();
            desk.start();
            DUE.same(stand + ": finish() with none made", desk.finish(), 0);
            desk.step(254);
            DUE.same(stand + ": finish() with 254 made", desk.finish(), 0);
            desk.step(1);
            DUE.same(stand + ": finish() with all made", desk.finish(), 1);
        }
    }

    private static void againMakesTheResultThePoint() {
        DUE.about("7: The result is the point now, phase 0: 1");
        for (Stand stand : Stand.inPhase(2)) {
            LadderDesk desk = stand.reach();
            long[] result = Desks.out(desk);
            DUE.same(stand + ": again()", desk.again(), 1);
            DUE.same(stand + ": phase()", desk.phase(), 0);
            DUE.sameLongs(stand + ": the point", Desks.told(desk, 1), result);
            DUE.sameLongs(stand + ": U", Desks.told(desk, 3), result);
            DUE.same(stand + ": again() once more", desk.again(), 0);
            DUE.same(stand + ": reset()", desk.reset(), 0);
            DUE.sameLongs(stand + ": the point after reset()", Desks.told(desk, 1), result);
            Desks.walkToResult(desk);
            DUE.sameLongs(stand + ": the next result", Desks.out(desk), result(Desks.SCALAR, result));
        }
    }

    private static void againKeepsTheScalarAsTold() {
        DUE.about("7: the scalar as told");
        for (long[] scalar : new long[][] {Desks.ALL_ONES, Desks.ZERO, {7, 0, 0, Long.MIN_VALUE}}) {
            LadderDesk desk = Desks.finished(scalar, Desks.POINT);
            desk.again();
            DUE.sameLongs("the scalar", Desks.told(desk, 0), scalar);
        }
    }

    private static void resetTellsThePhase() {
        DUE.about("8: Phase 0: the phase that it was.");
        for (Stand stand : Stand.values()) {
            LadderDesk desk = stand.reach();
            DUE.same(stand + ": reset()", desk.reset(), stand.phase);
            DUE.same(stand + ": phase()", desk.phase(), 0);
            DUE.same(stand + ": reset() once more", desk.reset(), 0);
        }
    }

    private static void resetKeepsWhatWasTold() {
        DUE.about("8: scalar and point are as told");
        for (Stand stand : Stand.values()) {
            LadderDesk desk = stand.reach();
            long[] scalar = Desks.told(desk, 0);
            long[] point = Desks.told(desk, 1);
            desk.reset();
            DUE.sameLongs(stand + ": the scalar", Desks.told(desk, 0), scalar);
            DUE.sameLongs(stand + ": the point", Desks.told(desk, 1), point);
            Desks.walkToResult(desk);
            DUE.sameLongs(stand + ": the result of these", Desks.out(desk), result(scalar, point));
        }
    }

    private static void phaseTurnsOnlyWhereItMust() {
        DUE.about("9: The phase.");
        LadderDesk desk = Desks.telling(Desks.SCALAR, Desks.POINT);
        DUE.same("told", desk.phase(), 0);
        desk.start();
        DUE.same("started", desk.phase(), 1);
        desk.step(254);
        DUE.same("one step left", desk.phase(), 1);
        desk.step(1);
        DUE.same("none left", desk.phase(), 1);
        desk.finish();
        DUE.same("finished", desk.phase(), 2);
        desk.again();
        DUE.same("again", desk.phase(), 0);
    }

    private static void outWithoutAResult() {
        DUE.about("10: 0 when there is none such. (no result)");
        for (Stand stand : Stand.notInPhase(2)) {
            DUE.sameLongs(stand + ": out", Desks.out(stand.reach()), Desks.ZERO);
        }
    }

    private static void outWithNoSuchLong() {
        DUE.about("10: 0 when there is none such. (no such long)");
        LadderDesk desk = Desks.finished(Desks.SCALAR, Desks.POINT);
        DUE.sameLongs("out(0) to out(3)", Desks.out(desk), result(Desks.SCALAR, Desks.POINT));
        for (Stand stand : Stand.values()) {
            for (int k : Desks.NO_LONG) {
                DUE.same(stand + ": out(" + k + ")", stand.reach().out(k), 0);
            }
        }
    }

    private static void partInPhase0() {
        DUE.about("11: 0 in phase 0");
        for (Stand stand : Stand.inPhase(0)) {
            LadderDesk desk = stand.reach();
            DUE.sameLongs(stand + ": parts", Desks.parts(desk), new long[Desks.PARTS * Desks.LONGS]);
            desk.start();
            DUE.same(stand + ": X2 behind start()", desk.part(0, 0), 1);
        }
    }

    private static void partWithNoSuchLong() {
        DUE.about("11: 0 when there is none such. (no such long)");
        for (Stand stand : Stand.values()) {
            LadderDesk desk = stand.reach();
            for (int which = 0; which < Desks.PARTS; which++) {
                for (int k : Desks.NO_LONG) {
                    DUE.same(stand + ": part(" + which + ", " + k + ")", desk.part(which, k), 0);
                }
            }
        }
    }

    private static void partWithNoSuchNumber() {
        DUE.about("11: 0 when there is none such. (no such number)");
        for (Stand stand : Stand.values()) {
            LadderDesk desk = stand.reach();
            for (int which : NO_PART) {
                DUE.sameLongs(stand + ": part of " + which, Desks.part(desk, which), Desks.ZERO);
                DUE.same(stand + ": part(" + which + ", -1)", desk.part(which, -1), 0);
                DUE.same(stand + ": part(" + which + ", 4)", desk.part(which, 4), 0);
            }
        }
        sameParts("those on this side, 0 to 4", Desks.walking(Desks.SCALAR, Desks.POINT, 40), 40);
    }

    /** With these U the first steps bring numbers just below P, at 0 and just above it. */
    private static void partIsLessThanP() {
        DUE.about("11: each less than P, as they are after the steps made");
        for (long low = -24; low <= 4; low++) {
            long[] point = low < 0 ? new long[] {low, -1, -1, Long.MAX_VALUE} : new long[] {low, 0, 0, 0};
            for (int steps : new int[] {0, 1, 2, 3, 254, 255}) {
                LadderDesk desk = Desks.walking(Desks.SCALAR, point, steps);
                BigInteger[] at = Reference.walked(Reference.number(Desks.SCALAR), Reference.number(point), steps);
                for (int which = 0; which < Desks.PARTS; which++) {
                    DUE.sameLongs("point " + low + ", " + steps + " steps, part " + which,
                        Desks.part(desk, which), Reference.words(at[which]));
                }
            }
        }
    }

    private static void toldWithNoSuchLong() {
        DUE.about("12: 0 when there is none such. (no such long)");
        for (Stand stand : Stand.values()) {
            LadderDesk desk = stand.reach();
            for (int which = 0; which < 4; which++) {
                for (int k : Desks.NO_LONG) {
                    DUE.same(stand + ": told(" + which + ", " + k + ")", desk.told(which, k), 0);
                }
            }
        }
    }

    private static void toldWithNoSuchNumber() {
        DUE.about("12: 0 when there is none such. (no such number)");
        for (Stand stand : Stand.values()) {
            LadderDesk desk = stand.reach();
            for (int which : Desks.NO_LONG) {
                DUE.sameLongs(stand + ": told of " + which, Desks.told(desk, which), Desks.ZERO);
            }
        }
    }

    private static void toldInEveryPhase() {
        DUE.about("12: the scalar or point as told, the scalar clamped, the point's U: in every phase");
        for (Stand stand : new Stand[] {Stand.TOLD, Stand.STARTED, Stand.ONE_LEFT, Stand.NONE_LEFT, Stand.RESULT}) {
            LadderDesk desk = stand.reach();
            DUE.sameLongs(stand + ": told(0)", Desks.told(desk, 0), Desks.SCALAR);
            DUE.sameLongs(stand + ": told(1)", Desks.told(desk, 1), Desks.POINT);
            DUE.sameLongs(stand + ": told(2)", Desks.told(desk, 2), new long[] {
                0x0123456789abcde8L, 0xfedcba9876543210L, 0x0011223344556677L, Long.MAX_VALUE});
            DUE.sameLongs(stand + ": told(3)", Desks.told(desk, 3), new long[] {
                0x1122334455667788L, -2L, 0x7766554433221100L, 0x0123456789abcdefL});
        }
    }

    private static void count0InPhase0() {
        DUE.about("13: 0 in phase 0");
        for (Stand stand : Stand.inPhase(0)) {
            DUE.same(stand + ": count(0)", stand.reach().count(0), 0);
        }
    }

    private static void count0AtItsEdges() {
        DUE.about("13: Steps made on the ladder at hand");
        LadderDesk desk = Desks.walking(Desks.SCALAR, Desks.POINT, 0);
        DUE.same("started", desk.count(0), 0);
        desk.step(1);
        DUE.same("after 1", desk.count(0), 1);
        desk.step(253);
        DUE.same("after 254", desk.count(0), 254);
        desk.step(1);
        DUE.same("after 255", desk.count(0), 255);
        desk.step(1);
        DUE.same("after 1 more than all", desk.count(0), 255);
        desk.finish();
        DUE.same("finished", desk.count(0), 255);
        desk.again();
        desk.start();
        DUE.same("on the next ladder", desk.count(0), 0);
        desk.step(2);
        DUE.same("after 2 on it", desk.count(0), 2);
    }

    private static void count1CountsResultsOnly() {
        DUE.about("13: results had in all");
        LadderDesk desk = Desks.walking(Desks.SCALAR, Desks.POINT, 254);
        desk.finish();
        DUE.same("finish() refused", desk.count(1), 0);
        desk.step(1);
        DUE.same("all steps made", desk.count(1), 0);
        desk.finish();
        DUE.same("finished", desk.count(1), 1);
        desk.finish();
        DUE.same("finished twice", desk.count(1), 1);
        desk.again();
        DUE.same("again", desk.count(1), 1);
        desk.start();
        desk.step(255);
        desk.reset();
        DUE.same("left before the result", desk.count(1), 1);
        Desks.walkToResult(desk);
        desk.reset();
        DUE.same("reset after the second", desk.count(1), 2);
    }

    private static void countOfOthers() {
        DUE.about("13: NONE for others.");
        for (Stand stand : Stand.values()) {
            LadderDesk desk = stand.reach();
            for (int what : NO_COUNT) {
                DUE.same(stand + ": count(" + what + ")", desk.count(what), LadderDesk.NONE);
            }
            DUE.same(stand + ": count(0)", desk.count(0), stand.steps);
            DUE.same(stand + ": count(1)", desk.count(1), stand.results);
        }
    }

    private static void checkWithoutAResult() {
        DUE.about("14: 1, also when there is none");
        for (Stand stand : Stand.notInPhase(2)) {
            DUE.same(stand + ": check()", stand.reach().check(), 1);
        }
    }

    private static void checkWithAResult() {
        DUE.about("14: Whether a result times Z2 is X2: 1");
        for (long low = -24; low <= 24; low++) {
            LadderDesk desk = Desks.finished(Desks.SCALAR, new long[] {low, low >> 63, low >> 63, low >> 63});
            DUE.same("point from " + low + ", check()", desk.check(), 1);
            BigInteger times = Reference.number(Desks.out(desk)).multiply(Reference.number(Desks.part(desk, 1)));
            boolean isX2 = times.mod(Reference.P).equals(Reference.number(Desks.part(desk, 0)));
            boolean bothAre0 = isZero(Desks.part(desk, 1)) && isZero(Desks.out(desk));
            DUE.truth("point from " + low + ", as asked for", isX2 || bothAre0);
        }
    }

    private static void checkWhereZ2Is0() {
        DUE.about("14: or Z2 is 0 and so is it");
        for (long[] point : new long[][] {Desks.ZERO, Desks.ONE, Desks.P_LESS_1, Desks.P}) {
            LadderDesk desk = Desks.finished(Desks.SCALAR, point);
            DUE.sameLongs("Z2", Desks.part(desk, 1), Desks.ZERO);
            DUE.sameLongs("the result", Desks.out(desk), Desks.ZERO);
            DUE.same("check()", desk.check(), 1);
        }
    }

    /** No run of calls brings a wrong result, so the test puts one in from behind. */
    private static void checkWouldTell0() {
        DUE.about("14: it would tell 0.");
        for (Stand stand : Stand.inPhase(2)) {
            for (int bit : new int[] {0, 63, 64, 128, 192, 254}) {
                LadderDesk desk = stand.reach();
                BigInteger right = Reference.number(Desks.out(desk));
                putResult(desk, right.flipBit(bit));
                DUE.same(stand + ": check() with bit " + bit + " wrong", desk.check(), 0);
                putResult(desk, right);
                DUE.same(stand + ": check() with bit " + bit + " right", desk.check(), 1);
            }
        }
    }

    private static void checkLooksAtEachLong() {
        DUE.about("14: it would tell 0. (where the product is X2 but for one long)");
        for (int k = 0; k < Desks.LONGS; k++) {
            LadderDesk desk = Stand.RESULT.reach();
            BigInteger nearX2 = Reference.number(Desks.part(desk, 0)).flipBit(64 * k);
            BigInteger z2 = Reference.number(Desks.part(desk, 1));
            putResult(desk, nearX2.multiply(z2.modInverse(Reference.P)).mod(Reference.P));
            DUE.same("check() with long " + k + " of the product wrong", desk.check(), 0);
        }
    }

    private static void putResult(LadderDesk desk, BigInteger result) {
        int rows = new Inside(desk).writeOver(Desks.out(desk), Reference.words(result));
        DUE.truth("the result is held as four longs, or this test must find it otherwise", rows > 0);
    }

    private static long[] result(long[] scalar, long[] point) {
        BigInteger[] at = Reference.walked(Reference.number(scalar), Reference.number(point), Desks.STEPS);
        return Reference.words(Reference.result(at));
    }

    private static void sameParts(String what, LadderDesk desk, int steps) {
        BigInteger[] at = Reference.walked(Reference.number(Desks.SCALAR), Reference.number(Desks.POINT), steps);
        for (int which = 0; which < Desks.PARTS; which++) {
            DUE.sameLongs(what + ", part " + which, Desks.part(desk, which), Reference.words(at[which]));
        }
    }

    private static boolean isZero(long[] words) {
        return Reference.number(words).signum() == 0;
    }
}
