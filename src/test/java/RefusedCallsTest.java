import java.util.List;

/**
 * The sentences that say that nothing is done, each with a method of its own: the answer, the whole
 * state as it was before, and what the desk does later as if the call had not been made.
 */
public final class RefusedCallsTest {
    private static final long[] VALUES = {0L, 1L, -1L, 77L, Long.MIN_VALUE, Long.MAX_VALUE};
    private static final int[] TOO_FEW = {0, -1, -2, -255, -256, Integer.MIN_VALUE, Integer.MIN_VALUE + 1};
    private static final int[] ENOUGH = {1, 2, 254, 255, 256, Integer.MAX_VALUE};
    private static final int[] INDICES = {0, 1, 2, 3, 4, 5, -1, Integer.MIN_VALUE, Integer.MAX_VALUE};

    private static final Due DUE = new Due("RefusedCallsTest");

    private interface Call {
        long on(LadderDesk desk);
    }

    public static void main(String[] args) {
        standsAreWhatTheySay();
        termsCallsNotForThePhase();
        scalarInAnotherPhase();
        scalarWithNoSuchLong();
        pointInAnotherPhase();
        pointWithNoSuchLong();
        startInOtherPhases();
        stepNotInPhase1();
        stepWithNLessThan1();
        finishBeforeAllSteps();
        finishNotInPhase1();
        againNotInPhase2();
        resetInPhase0();
        askingChangesNothing();
        DUE.end();
    }

    private static void standsAreWhatTheySay() {
        DUE.about("PHASES: 0 scalar and point can be told; 1 on the ladder; 2 with a result.");
        for (Stand stand : Stand.values()) {
            LadderDesk desk = stand.reach();
            DUE.same(stand + ": phase()", desk.phase(), stand.phase);
            DUE.same(stand + ": count(0)", desk.count(0), stand.steps);
            DUE.same(stand + ": count(1)", desk.count(1), stand.results);
        }
    }

    /** All of a phase's wrong calls on one desk, in a row. */
    private static void termsCallsNotForThePhase() {
        DUE.about("Calls that are not for the phase do nothing.");
        for (Stand stand : Stand.values()) {
            refused(stand, "all calls of the other phases", 0, desk -> {
                long sum = 0;
                if (stand.phase != 0) {
                    sum += desk.scalar(0, 77) + desk.scalar(3, 77) + desk.point(0, 77) + desk.point(3, 77);
                    sum += desk.start();
                }
                if (stand.phase != 1) {
                    sum += desk.step(1) + 1 + desk.step(255) + 1 + desk.finish();
                }
                if (stand.phase != 2) {
                    sum += desk.again();
                }
                return sum;
            });
        }
    }

    private static void scalarInAnotherPhase() {
        DUE.about("scalar: 0, and nothing is done, when it is another phase");
        for (int k = 0; k < Desks.LONGS; k++) {
            for (long v : VALUES) {
                int at = k;
                refused(Stand.notInPhase(0), "scalar(" + k + ", " + v + ")", 0, desk -> desk.scalar(at, v));
            }
        }
    }

    private static void scalarWithNoSuchLong() {
        DUE.about("scalar: 0, and nothing is done, when k not 0 .. 3");
        for (int k : Desks.NO_LONG) {
            refused(List.of(Stand.values()), "scalar(" + k + ", 77)", 0, desk -> desk.scalar(k, 77));
        }
    }

    private static void pointInAnotherPhase() {
        DUE.about("point: likewise: 0, and nothing is done, when it is another phase");
        for (int k = 0; k < Desks.LONGS; k++) {
            for (long v : VALUES) {
                int at = k;
                refused(Stand.notInPhase(0), "point(" + k + ", " + v + ")", 0, desk -> desk.point(at, v));
            }
        }
    }

    private static void pointWithNoSuchLong() {
        DUE.about("point: likewise: 0, and nothing is done, when k not 0 .. 3");
        for (int k : Desks.NO_LONG) {
            refused(List.of(Stand.values()), "point(" + k + ", 77)", 0, desk -> desk.point(k, 77));
        }
    }

    private static void startInOtherPhases() {
        DUE.about("start: 0 in other phases.");
        refused(Stand.notInPhase(0), "start()", 0, LadderDesk::start);
    }

    private static void stepNotInPhase1() {
        DUE.about("step: NONE, and nothing is done, when it is not phase 1");
        for (int n : ENOUGH) {
            refused(Stand.notInPhase(1), "step(" + n + ")", LadderDesk.NONE, desk -> desk.step(n));
        }
    }

    private static void stepWithNLessThan1() {
        DUE.about("step: NONE, and nothing is done, when n is less than 1.");
        for (int n : TOO_FEW) {
            refused(List.of(Stand.values()), "step(" + n + ")", LadderDesk.NONE, desk -> desk.step(n));
        }
    }

    private static void finishBeforeAllSteps() {
        DUE.about("finish: From phase 1, all 255 steps made, to 2: 1; 0 else. (steps are left)");
        for (Stand stand : Stand.inPhase(1)) {
            if (stand.steps < Desks.STEPS) {
                refused(stand, "finish()", 0, LadderDesk::finish);
            }
        }
    }

    private static void finishNotInPhase1() {
        DUE.about("finish: From phase 1, all 255 steps made, to 2: 1; 0 else. (not phase 1)");
        refused(Stand.notInPhase(1), "finish()", 0, LadderDesk::finish);
    }

    private static void againNotInPhase2() {
        DUE.about("again: 0 when it is not phase 2.");
        refused(Stand.notInPhase(2), "again()", 0, LadderDesk::again);
    }

    /** Not refused, but what it sets is so already. */
    private static void resetInPhase0() {
        DUE.about("reset: Phase 0; scalar and point are as told: the phase that it was. (phase 0)");
        refused(Stand.inPhase(0), "reset()", 0, LadderDesk::reset);
    }

    private static void askingChangesNothing() {
        DUE.about("phase, out, part, told, count and check only tell");
        for (Stand stand : Stand.values()) {
            refused(stand, "phase()", stand.phase, LadderDesk::phase);
            refused(stand, "check()", 1, LadderDesk::check);
            refused(stand, "each out, told, part and count", 0, desk -> {
                for (int one : INDICES) {
                    desk.out(one);
                    desk.count(one);
                    for (int k : new int[] {0, 3, 4, -1}) {
                        desk.told(one, k);
                        desk.part(one, k);
                    }
                }
                return 0;
            });
        }
    }

    private static void refused(List<Stand> stands, String name, long due, Call call) {
        for (Stand stand : stands) {
            refused(stand, name, due, call);
        }
    }

    private static void refused(Stand stand, String name, long due, Call call) {
        String row = stand + ": " + name;
        LadderDesk desk = stand.reach();
        Picture before = new Picture(desk);
        DUE.same(row, call.on(desk), due);
        new Picture(desk).sameAs(before, DUE, row + ", behind it");
        sameLater(row, desk, stand.reach());
    }

    /** A call may leave something that no question shows at once. */
    private static void sameLater(String row, LadderDesk desk, LadderDesk twin) {
        goOn(desk);
        goOn(twin);
        new Picture(desk).sameAs(new Picture(twin), DUE, row + ", at the next result");
        DUE.same(row + ", reset() later", desk.reset(), twin.reset());
        new Picture(desk).sameAs(new Picture(twin), DUE, row + ", reset later");
        goOn(desk);
        goOn(twin);
        new Picture(desk).sameAs(new Picture(twin), DUE, row + ", at the result behind that");
    }

    private static void goOn(LadderDesk desk) {
        desk.again();
        desk.start();
        desk.step(Desks.STEPS);
        desk.finish();
    }
}
