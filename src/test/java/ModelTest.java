import java.util.Random;

/** Long mixed runs of calls, each of at most 512, beside the model. */
public final class ModelTest {
    private static final int RUNS = 400;
    private static final int CALLS = 512;
    private static final int[] INDICES = {0, 1, 2, 3, 0, 1, 2, 3, -1, 4, 5, 64, Integer.MIN_VALUE, Integer.MAX_VALUE};
    private static final int[] STEPS = {1, 2, 3, 50, 100, 254, 255, 256, Integer.MAX_VALUE, 0, -1, Integer.MIN_VALUE};
    private static final long[] VALUES = {
        0L, 1L, -1L, -18L, -19L, -20L, 7L, 9L, Long.MAX_VALUE, Long.MIN_VALUE, Long.MIN_VALUE >> 1,
        0x03ffffffL, 0x04000000L, -38L, -608L, -1216L
    };

    private static final Due DUE = new Due("ModelTest");

    public static void main(String[] args) {
        for (int run = 0; run < RUNS; run++) {
            mixedRun(run, new Random(run));
        }
        DUE.end();
    }

    private static void mixedRun(int run, Random random) {
        LadderDesk desk = new LadderDesk();
        Model model = new Model();
        // Some runs mostly ask and some mostly walk, or few would come to a second result.
        int askingIn = 2 + random.nextInt(9);
        for (int call = 0; call < CALLS; call++) {
            if (random.nextInt(10) < askingIn) {
                ask(run, desk, model, random);
            } else {
                change(run, desk, model, random);
            }
        }
    }

    private static void ask(int run, LadderDesk desk, Model model, Random random) {
        int which = random.nextInt(8) == 0 ? INDICES[random.nextInt(INDICES.length)] : random.nextInt(6) - random.nextInt(2);
        int k = INDICES[random.nextInt(INDICES.length)];
        String row = run + ": ";
        switch (random.nextInt(8)) {
            case 0: DUE.same(row + "phase()", desk.phase(), model.phase()); break;
            case 1: DUE.same(row + "out(" + k + ")", desk.out(k), model.out(k)); break;
            case 2: case 3: case 4:
                DUE.same(row + "part(" + which + ", " + k + ")", desk.part(which, k), model.part(which, k));
                break;
            case 5: DUE.same(row + "told(" + which + ", " + k + ")", desk.told(which, k), model.told(which, k)); break;
            case 6: DUE.same(row + "count(" + which + ")", desk.count(which), model.count(which)); break;
            default: DUE.same(row + "check()", desk.check(), model.check()); break;
        }
    }

    private static void change(int run, LadderDesk desk, Model model, Random random) {
        int k = INDICES[random.nextInt(INDICES.length)];
        long v = random.nextBoolean() ? VALUES[random.nextInt(VALUES.length)] : random.nextLong();
        int n = random.nextInt(3) == 0 ? 1 + random.nextInt(255) : STEPS[random.nextInt(STEPS.length)];
        String row = run + ": ";
        int kind = random.nextInt(40);
        if (kind < 6) {
            DUE.same(row + "scalar(" + k + ", " + v + ")", desk.scalar(k, v), model.scalar(k, v));
        } else if (kind < 12) {
            DUE.same(row + "point(" + k + ", " + v + ")", desk.point(k, v), model.point(k, v));
        } else if (kind < 17) {
            DUE.same(row + "start()", desk.start(), model.start());
        } else if (kind < 29) {
            DUE.same(row + "step(" + n + ")", desk.step(n), model.step(n));
        } else if (kind < 36) {
            DUE.same(row + "finish()", desk.finish(), model.finish());
        } else if (kind < 39) {
            DUE.same(row + "again()", desk.again(), model.again());
        } else {
            DUE.same(row + "reset()", desk.reset(), model.reset());
        }
    }
}
