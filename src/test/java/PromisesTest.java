import java.math.BigInteger;

/** A method for each promise of the document: what is usual, the edges it names, wrong inputs. */
public final class PromisesTest {
    private static final int[] WRONG = {-1, 4, 5, 32, Integer.MIN_VALUE, Integer.MAX_VALUE};

    private static final Due DUE = new Due("PromisesTest");

    public static void main(String[] args) {
        promise1NewObject();
        promise2Scalar();
        promise3Point();
        promise4Start();
        promise5Step();
        promise5EveryStep();
        promise5Clamping();
        promise6Finish();
        promise7Again();
        promise7AgainAndAgain();
        promise8Reset();
        promise9Phase();
        promise10Out();
        promise10EdgesOfU();
        promise11Part();
        promise12Told();
        promise12UOfThePoint();
        promise13Count();
        promise14Check();
        DUE.end();
    }

    private static void promise1NewObject() {
        LadderDesk desk = new LadderDesk();
        DUE.same("1: phase()", desk.phase(), 0);
        sameTold("1: new", desk, 0, Desks.ZERO);
        sameTold("1: new", desk, 1, Desks.ZERO);
        LadderDesk other = new LadderDesk();
        other.scalar(0, 5);
        other.start();
        DUE.same("1: another object's phase()", desk.phase(), 0);
        sameTold("1: another object's", desk, 0, Desks.ZERO);
    }

    private static void promise2Scalar() {
        LadderDesk desk = new LadderDesk();
        for (int k = 0; k < 4; k++) {
            DUE.same("2: scalar(" + k + ")", desk.scalar(k, Desks.SCALAR[k]), 1);
        }
        for (int k : WRONG) {
            DUE.same("2: scalar(" + k + ")", desk.scalar(k, 77), 0);
        }
        sameTold("2: after wrong k", desk, 0, Desks.SCALAR);
        sameTold("2: the point is left", desk, 1, Desks.ZERO);
        DUE.same("2: told over", desk.scalar(2, 8), 1);
        DUE.same("2: told over", desk.told(0, 2), 8);
        DUE.same("2: told back", desk.scalar(2, Desks.SCALAR[2]), 1);
        desk.start();
        DUE.same("2: in phase 1", desk.scalar(0, 77), 0);
        sameTold("2: in phase 1", desk, 0, Desks.SCALAR);
        desk.step(255);
        desk.finish();
        DUE.same("2: in phase 2", desk.scalar(3, 77), 0);
        sameTold("2: in phase 2", desk, 0, Desks.SCALAR);
    }

    private static void promise3Point() {
        LadderDesk desk = new LadderDesk();
        for (int k = 0; k < 4; k++) {
            DUE.same("3: point(" + k + ")", desk.point(k, Desks.POINT[k]), 1);
        }
        for (int k : WRONG) {
            DUE.same("3: point(" + k + ")", desk.point(k, 77), 0);
        }
        sameTold("3: after wrong k", desk, 1, Desks.POINT);
        sameTold("3: the scalar is left", desk, 0, Desks.ZERO);
        desk.start();
        DUE.same("3: in phase 1", desk.point(0, 77), 0);
        sameTold("3: in phase 1", desk, 1, Desks.POINT);
        desk.step(255);
        desk.finish();
        DUE.same("3: in phase 2", desk.point(3, 77), 0);
        sameTold("3: in phase 2", desk, 1, Desks.POINT);
    }

    private static void promise4Start() {
        LadderDesk desk = Desks.telling(Desks.SCALAR, Desks.POINT);
        DUE.same("4: start()", desk.start(), 1);
        DUE.same("4: phase()", desk.phase(), 1);
        DUE.same("4: count(0)", desk.count(0), 0);
        sameParts("4: no step made", desk, Desks.SCALAR, Desks.POINT, 0);
        desk.step(7);
        DUE.same("4: start() in phase 1", desk.start(), 0);
        DUE.same("4: steps are kept", desk.count(0), 7);
        sameParts("4: ladder is kept", desk, Desks.SCALAR, Desks.POINT, 7);
        desk.reset();
        DUE.same("4: start() anew", desk.start(), 1);
        DUE.same("4: no step made anew", desk.count(0), 0);
        sameParts("4: anew", desk, Desks.SCALAR, Desks.POINT, 0);
        desk.step(255);
        desk.finish();
        DUE.same("4: start() in phase 2", desk.start(), 0);
        DUE.same("4: phase() in phase 2", desk.phase(), 2);
    }

    private static void promise5Step() {
        LadderDesk desk = Desks.telling(Desks.SCALAR, Desks.POINT);
        DUE.same("5: in phase 0", desk.step(1), LadderDesk.NONE);
        desk.start();
        for (int n : new int[] {0, -1, Integer.MIN_VALUE}) {
            DUE.same("5: step(" + n + ")", desk.step(n), LadderDesk.NONE);
        }
        sameParts("5: after wrong n", desk, Desks.SCALAR, Desks.POINT, 0);
        DUE.same("5: step(1)", desk.step(1), 254);
        DUE.same("5: step(200)", desk.step(200), 54);
        sameParts("5: after 201", desk, Desks.SCALAR, Desks.POINT, 201);
        DUE.same("5: step(53)", desk.step(53), 1);
        DUE.same("5: step(2), 1 left", desk.step(2), 0);
        DUE.same("5: step(1), none left", desk.step(1), 0);
        DUE.same("5: step(0), none left", desk.step(0), LadderDesk.NONE);
        DUE.same("5: phase(), none left", desk.phase(), 1);
        sameParts("5: after all", desk, Desks.SCALAR, Desks.POINT, 255);
        desk.finish();
        DUE.same("5: in phase 2", desk.step(1), LadderDesk.NONE);
        sameParts("5: in phase 2", desk, Desks.SCALAR, Desks.POINT, 255);
        LadderDesk atOnce = Desks.telling(Desks.SCALAR, Desks.POINT);
        atOnce.start();
        DUE.same("5: as many as an int tells", atOnce.step(Integer.MAX_VALUE), 0);
        DUE.same("5: count(0) of these", atOnce.count(0), 255);
    }

    private static void promise5EveryStep() {
        for (int steps = 0; steps <= 255; steps++) {
            LadderDesk desk = Desks.telling(Desks.POINT, Desks.SCALAR);
            desk.start();
            if (steps > 0) {
                DUE.same("5: step(" + steps + ")", desk.step(steps), 255 - steps);
            }
            sameParts("5: after " + steps, desk, Desks.POINT, Desks.SCALAR, steps);
        }
    }

    /** Each bit alone, told or not: all that are not clamped must tell in the result. */
    private static void promise5Clamping() {
        for (int bit = 0; bit < 256; bit++) {
            long[] one = Reference.words(BigInteger.ONE.shiftLeft(bit));
            sameOut("5: scalar with bit " + bit, Desks.finished(one, Desks.POINT), one, Desks.POINT);
        }
        sameOut("5: scalar of ones", Desks.finished(Desks.ALL_ONES, Desks.POINT), Desks.ALL_ONES, Desks.POINT);
        sameOut("5: scalar of zeros", Desks.finished(Desks.ZERO, Desks.POINT), Desks.ZERO, Desks.POINT);
    }

    private static void promise6Finish() {
        LadderDesk desk = Desks.telling(Desks.SCALAR, Desks.POINT);
        DUE.same("6: in phase 0", desk.finish(), 0);
        desk.start();
        DUE.same("6: no step made", desk.finish(), 0);
        desk.step(254);
        DUE.same("6: 254 steps made", desk.finish(), 0);
        DUE.same("6: phase() is left", desk.phase(), 1);
        DUE.same("6: count(1) is left", desk.count(1), 0);
        desk.step(1);
        DUE.same("6: phase() before", desk.phase(), 1);
        DUE.same("6: all made", desk.finish(), 1);
        DUE.same("6: phase() behind", desk.phase(), 2);
        DUE.same("6: in phase 2", desk.finish(), 0);
        DUE.same("6: count(1) is 1", desk.count(1), 1);
        desk.reset();
        DUE.same("6: in phase 0, after 255 steps", desk.finish(), 0);
        desk.start();
        DUE.same("6: on a new ladder", desk.finish(), 0);
    }

    private static void promise7Again() {
        LadderDesk desk = Desks.telling(Desks.SCALAR, Desks.POINT);
        DUE.same("7: in phase 0", desk.again(), 0);
        desk.start();
        DUE.same("7: in phase 1", desk.again(), 0);
        desk.step(255);
        DUE.same("7: in phase 1, all made", desk.again(), 0);
        DUE.same("7: phase() is left", desk.phase(), 1);
        sameTold("7: the point is left", desk, 1, Desks.POINT);
        desk.finish();
        long[] result = Desks.out(desk);
        DUE.same("7: in phase 2", desk.again(), 1);
        DUE.same("7: phase()", desk.phase(), 0);
        sameTold("7: the point now", desk, 1, result);
        sameTold("7: the scalar as told", desk, 0, Desks.SCALAR);
        DUE.same("7: twice", desk.again(), 0);
        DUE.same("7: reset()", desk.reset(), 0);
        sameTold("7: the point after reset()", desk, 1, result);
        DUE.same("7: the point can be told", desk.point(0, 3), 1);
        DUE.same("7: the point as told", desk.told(1, 0), 3);
        DUE.same("7: the rest of the point", desk.told(1, 1), result[1]);
    }

    private static void promise7AgainAndAgain() {
        LadderDesk desk = Desks.telling(Desks.SCALAR, Desks.POINT);
        long[] point = Desks.POINT;
        for (int i = 1; i <= 60; i++) {
            desk.start();
            desk.step(255);
            desk.finish();
            DUE.same("7: count(1)", desk.count(1), i);
            point = Reference.words(Reference.result(reference(Desks.SCALAR, point, 255)));
            DUE.same("7: round " + i, desk.out(i & 3), point[i & 3]);
            desk.again();
        }
        sameTold("7: after 60", desk, 1, point);
    }

    private static void promise8Reset() {
        LadderDesk desk = Desks.telling(Desks.SCALAR, Desks.POINT);
        DUE.same("8: in phase 0", desk.reset(), 0);
        sameAsTold("8: in phase 0", desk);
        desk.start();
        desk.step(9);
        DUE.same("8: in phase 1", desk.reset(), 1);
        sameAsTold("8: from phase 1", desk);
        desk.start();
        desk.step(255);
        desk.finish();
        DUE.same("8: in phase 2", desk.reset(), 2);
        sameAsTold("8: from phase 2", desk);
        DUE.same("8: results are kept", desk.count(1), 1);
        DUE.same("8: once more", desk.reset(), 0);
        desk.start();
        desk.step(255);
        desk.finish();
        sameOut("8: the same once more", desk, Desks.SCALAR, Desks.POINT);
    }

    private static void promise9Phase() {
        LadderDesk desk = Desks.telling(Desks.SCALAR, Desks.POINT);
        DUE.same("9: told", desk.phase(), 0);
        desk.start();
        DUE.same("9: started", desk.phase(), 1);
        desk.step(255);
        DUE.same("9: walked", desk.phase(), 1);
        desk.finish();
        DUE.same("9: finished", desk.phase(), 2);
        DUE.same("9: asked twice", desk.phase(), 2);
        desk.again();
        DUE.same("9: again", desk.phase(), 0);
    }

    private static void promise10Out() {
        LadderDesk desk = Desks.telling(Desks.SCALAR, Desks.POINT);
        DUE.sameLongs("10: in phase 0", Desks.out(desk), Desks.ZERO);
        desk.start();
        desk.step(255);
        DUE.sameLongs("10: in phase 1", Desks.out(desk), Desks.ZERO);
        desk.finish();
        sameOut("10: in phase 2", desk, Desks.SCALAR, Desks.POINT);
        for (int k : WRONG) {
            DUE.same("10: out(" + k + ")", desk.out(k), 0);
        }
        desk.again();
        DUE.sameLongs("10: after again()", Desks.out(desk), Desks.ZERO);
        desk.start();
        DUE.sameLongs("10: on the next ladder", Desks.out(desk), Desks.ZERO);
        desk.step(255);
        desk.finish();
        desk.reset();
        DUE.sameLongs("10: after reset()", Desks.out(desk), Desks.ZERO);
    }

    /** Points around 0, P and 2^255, with and without bit 255, and those of small order. */
    private static void promise10EdgesOfU() {
        BigInteger order8 = new BigInteger("325606250916557431795983626356110631294008115727848805560023387167927233504");
        BigInteger[] middles = {BigInteger.ZERO, Reference.P, BigInteger.ONE.shiftLeft(255), order8};
        for (BigInteger middle : middles) {
            for (int away = -22; away <= 22; away++) {
                BigInteger point = middle.add(BigInteger.valueOf(away)).mod(BigInteger.ONE.shiftLeft(256));
                long[] words = Reference.words(point);
                sameOut("10: point " + point, Desks.finished(Desks.SCALAR, words), Desks.SCALAR, words);
                sameParts("10: point " + point, Desks.finished(Desks.SCALAR, words), Desks.SCALAR, words, 255);
                words[3] ^= Long.MIN_VALUE;
                sameOut("10: bit 255 and " + point, Desks.finished(Desks.SCALAR, words), Desks.SCALAR, words);
            }
        }
    }

    private static void promise11Part() {
        LadderDesk desk = Desks.telling(Desks.SCALAR, Desks.POINT);
        allPartsZero("11: in phase 0", desk);
        desk.start();
        sameParts("11: at first", desk, Desks.SCALAR, Desks.POINT, 0);
        desk.step(3);
        sameParts("11: after 3", desk, Desks.SCALAR, Desks.POINT, 3);
        for (int wrong : WRONG) {
            DUE.same("11: part(0, " + wrong + ")", desk.part(0, wrong), 0);
            DUE.same("11: part(4, " + wrong + ")", desk.part(4, wrong), 0);
        }
        for (int wrong : new int[] {-1, 5, 6, Integer.MIN_VALUE, Integer.MAX_VALUE}) {
            DUE.same("11: part(" + wrong + ", 0)", desk.part(wrong, 0), 0);
        }
        desk.step(252);
        desk.finish();
        sameParts("11: in phase 2", desk, Desks.SCALAR, Desks.POINT, 255);
        desk.again();
        allPartsZero("11: after again()", desk);
        for (long[] point : new long[][] {Desks.P, Desks.P_LESS_1, Desks.ALL_ONES}) {
            LadderDesk edge = Desks.telling(Desks.SCALAR, point);
            edge.start();
            sameParts("11: U at the edge", edge, Desks.SCALAR, point, 0);
            edge.step(1);
            sameParts("11: U at the edge, a step", edge, Desks.SCALAR, point, 1);
            edge.reset();
            allPartsZero("11: after reset()", edge);
        }
    }

    private static void promise12Told() {
        LadderDesk desk = Desks.telling(Desks.SCALAR, Desks.POINT);
        sameAsTold("12: in phase 0", desk);
        for (int which = 0; which < 4; which++) {
            for (int k : WRONG) {
                DUE.same("12: told(" + which + ", " + k + ")", desk.told(which, k), 0);
            }
        }
        for (int wrong : WRONG) {
            DUE.same("12: told(" + wrong + ", 0)", desk.told(wrong, 0), 0);
        }
        desk.start();
        desk.step(5);
        sameAsTold("12: in phase 1", desk);
        desk.step(250);
        desk.finish();
        sameAsTold("12: in phase 2", desk);
        sameTold("12: clamped zeros", new LadderDesk(), 2, new long[] {0, 0, 0, 1L << 62});
        sameTold("12: clamped ones", Desks.telling(Desks.ALL_ONES, Desks.ZERO), 2, new long[] {-8, -1, -1, Long.MAX_VALUE});
        sameTold("12: ones as told", Desks.telling(Desks.ALL_ONES, Desks.ZERO), 0, Desks.ALL_ONES);
    }

    private static void promise12UOfThePoint() {
        for (int low = -40; low < 40; low++) {
            for (long high : new long[] {-1, Long.MAX_VALUE, Long.MAX_VALUE - 1, 0, Long.MIN_VALUE}) {
                for (long middle : new long[] {-1, 0}) {
                    sameU(new long[] {low, -1, middle, high});
                    sameU(new long[] {low, middle, -1, high});
                }
            }
        }
    }

    private static void promise13Count() {
        LadderDesk desk = Desks.telling(Desks.SCALAR, Desks.POINT);
        DUE.same("13: count(0) in phase 0", desk.count(0), 0);
        DUE.same("13: count(1) at first", desk.count(1), 0);
        for (int what : new int[] {-1, 2, 3, Integer.MIN_VALUE, Integer.MAX_VALUE}) {
            DUE.same("13: count(" + what + ")", desk.count(what), LadderDesk.NONE);
        }
        desk.start();
        DUE.same("13: count(0) started", desk.count(0), 0);
        desk.step(11);
        DUE.same("13: count(0) after 11", desk.count(0), 11);
        desk.step(1000);
        DUE.same("13: count(0) after all", desk.count(0), 255);
        DUE.same("13: count(1) before a result", desk.count(1), 0);
        desk.finish();
        DUE.same("13: count(0) in phase 2", desk.count(0), 255);
        DUE.same("13: count(1) with one", desk.count(1), 1);
        desk.again();
        DUE.same("13: count(0) after again()", desk.count(0), 0);
        DUE.same("13: count(1) after again()", desk.count(1), 1);
        desk.start();
        desk.step(20);
        desk.reset();
        DUE.same("13: count(0) after reset()", desk.count(0), 0);
        DUE.same("13: count(1) after reset()", desk.count(1), 1);
        desk.start();
        DUE.same("13: count(0) on the next", desk.count(0), 0);
        desk.step(255);
        desk.finish();
        DUE.same("13: count(1) with two", desk.count(1), 2);
    }

    private static void promise14Check() {
        LadderDesk desk = Desks.telling(Desks.SCALAR, Desks.POINT);
        DUE.same("14: in phase 0", desk.check(), 1);
        desk.start();
        DUE.same("14: in phase 1", desk.check(), 1);
        desk.step(255);
        DUE.same("14: in phase 1, all made", desk.check(), 1);
        desk.finish();
        DUE.same("14: with a result", desk.check(), 1);
        sameOut("14: the result is left", desk, Desks.SCALAR, Desks.POINT);
        sameParts("14: the ladder is left", desk, Desks.SCALAR, Desks.POINT, 255);
        for (long[] point : new long[][] {Desks.ZERO, Desks.P, Desks.P_LESS_1, {1, 0, 0, 0}, Desks.ALL_ONES}) {
            DUE.same("14: at the edge", Desks.finished(Desks.SCALAR, point).check(), 1);
        }
    }

    private static BigInteger[] reference(long[] scalar, long[] point, int steps) {
        return Reference.walked(Reference.number(scalar), Reference.number(point), steps);
    }

    private static void sameOut(String what, LadderDesk desk, long[] scalar, long[] point) {
        BigInteger want = Reference.result(reference(scalar, point, 255));
        DUE.sameLongs(what, Desks.out(desk), Reference.words(want));
    }

    private static void sameParts(String what, LadderDesk desk, long[] scalar, long[] point, int steps) {
        BigInteger[] at = reference(scalar, point, steps);
        for (int which = 0; which < 5; which++) {
            long[] want = Reference.words(at[which]);
            for (int k = 0; k < 4; k++) {
                DUE.same(what + ", part(" + which + ", " + k + ")", desk.part(which, k), want[k]);
            }
        }
    }

    private static void allPartsZero(String what, LadderDesk desk) {
        for (int which = 0; which < 5; which++) {
            for (int k = 0; k < 4; k++) {
                DUE.same(what + ", part(" + which + ", " + k + ")", desk.part(which, k), 0);
            }
        }
    }

    private static void sameU(long[] point) {
        sameTold("12: U", Desks.telling(Desks.ZERO, point), 3, Reference.words(Reference.u(Reference.number(point))));
        sameTold("12: the point of it", Desks.telling(Desks.ZERO, point), 1, point);
    }

    private static void sameAsTold(String what, LadderDesk desk) {
        sameTold(what, desk, 0, Desks.SCALAR);
        sameTold(what, desk, 1, Desks.POINT);
        sameTold(what, desk, 2, Reference.words(Reference.clamped(Reference.number(Desks.SCALAR))));
        sameTold(what, desk, 3, Reference.words(Reference.u(Reference.number(Desks.POINT))));
    }

    private static void sameTold(String what, LadderDesk desk, int which, long[] want) {
        for (int k = 0; k < 4; k++) {
            DUE.same(what + ", told(" + which + ", " + k + ")", desk.told(which, k), want[k]);
        }
    }
}
