/** All that a desk tells at one moment, so that "nothing is done" is asked of all of it. Takes 44 calls. */
final class Picture {
    private static final int ROWS = 44;

    private final String[] calls = new String[ROWS];
    private final long[] answers = new long[ROWS];
    private int rows = 0;

    Picture(LadderDesk desk) {
        add("phase()", desk.phase());
        add("count(0)", desk.count(0));
        add("count(1)", desk.count(1));
        add("check()", desk.check());
        for (int k = 0; k < Desks.LONGS; k++) {
            add("out(" + k + ")", desk.out(k));
            for (int which = 0; which < 4; which++) {
                add("told(" + which + ", " + k + ")", desk.told(which, k));
            }
            for (int which = 0; which < Desks.PARTS; which++) {
                add("part(" + which + ", " + k + ")", desk.part(which, k));
            }
        }
    }

    void sameAs(Picture want, Due due, String when) {
        for (int i = 0; i < ROWS; i++) {
            due.same(when + ": " + calls[i], answers[i], want.answers[i]);
        }
    }

    private void add(String call, long answer) {
        calls[rows] = call;
        answers[rows] = answer;
        rows++;
    }
}
