import java.util.ArrayList;
import java.util.List;

/** Where a desk can stand: every phase, come to in each way, and the edges of phase 1. */
enum Stand {
    NEW(0, 0, 0),
    TOLD(0, 0, 0),
    RESET_FROM_TELLING(0, 0, 0),
    RESET_FROM_LADDER(0, 0, 0),
    RESET_FROM_ALL_STEPS(0, 0, 0),
    RESET_FROM_RESULT(0, 0, 1),
    AGAIN(0, 0, 1),
    STARTED_NEW(1, 0, 0),
    STARTED(1, 0, 0),
    ONE_STEP(1, 1, 0),
    ONE_LEFT(1, 254, 0),
    NONE_LEFT(1, 255, 0),
    STARTED_AGAIN(1, 0, 1),
    NONE_LEFT_AGAIN(1, 255, 1),
    STARTED_AFTER_RESET(1, 0, 0),
    RESULT(2, 255, 1),
    RESULT_0(2, 255, 1),
    RESULT_AGAIN(2, 255, 2);

    final int phase;
    final int steps;
    final int results;

    Stand(int phase, int steps, int results) {
        this.phase = phase;
        this.steps = steps;
        this.results = results;
    }

    static List<Stand> inPhase(int phase) {
        List<Stand> stands = new ArrayList<>();
        for (Stand stand : values()) {
            if (stand.phase == phase) {
                stands.add(stand);
            }
        }
        return stands;
    }

    static List<Stand> notInPhase(int phase) {
        List<Stand> stands = new ArrayList<>(List.of(values()));
        stands.removeAll(inPhase(phase));
        return stands;
    }

    /** A new desk that stands here; fewer than 20 calls have been made on it. */
    LadderDesk reach() {
        LadderDesk desk = this == NEW || this == STARTED_NEW
            ? new LadderDesk()
            : Desks.telling(Desks.SCALAR, this == RESULT_0 ? Desks.ZERO : Desks.POINT);
        switch (this) {
            case RESET_FROM_TELLING: desk.reset(); break;
            case RESET_FROM_LADDER: walk(desk, 100); desk.reset(); break;
            case RESET_FROM_ALL_STEPS: walk(desk, 255); desk.reset(); break;
            case RESET_FROM_RESULT: Desks.walkToResult(desk); desk.reset(); break;
            case AGAIN: again(desk); break;
            case STARTED_NEW: case STARTED: desk.start(); break;
            case ONE_STEP: walk(desk, 1); break;
            case ONE_LEFT: walk(desk, 254); break;
            case NONE_LEFT: walk(desk, 255); break;
            case STARTED_AGAIN: again(desk); desk.start(); break;
            case NONE_LEFT_AGAIN: again(desk); walk(desk, 255); break;
            case STARTED_AFTER_RESET: walk(desk, 255); desk.reset(); desk.start(); break;
            case RESULT: case RESULT_0: Desks.walkToResult(desk); break;
            case RESULT_AGAIN: again(desk); Desks.walkToResult(desk); break;
            default: break;
        }
        return desk;
    }

    private static void walk(LadderDesk desk, int steps) {
        desk.start();
        desk.step(steps);
    }

    private static void again(LadderDesk desk) {
        Desks.walkToResult(desk);
        desk.again();
    }
}
