/** Counts and prints the answers that are not the ones that are due. */
final class Due {
    private final String test;
    private String sentence = "";
    private int askedBefore = 0;
    private int asked = 0;
    private int wrong = 0;

    Due(String test) {
        this.test = test;
    }

    /** The sentence of the document that the rows from here on are about. */
    void about(String words) {
        closeSentence();
        sentence = words;
        askedBefore = asked;
    }

    void same(String call, long got, long want) {
        asked++;
        if (got != want) {
            wrong++;
            System.out.println(place() + call + " answered " + got + ", due is " + want);
        }
    }

    void sameLongs(String what, long[] got, long[] want) {
        same(what + ", how many longs", got.length, want.length);
        for (int k = 0; k < Math.min(got.length, want.length); k++) {
            same(what + ", long " + k, got[k], want[k]);
        }
    }

    void truth(String what, boolean holds) {
        same(what, holds ? 1 : 0, 1);
    }

    void end() {
        closeSentence();
        System.out.println(test + ": " + asked + " answers, " + wrong + " not as due");
        if (wrong != 0 || asked == 0) {
            System.exit(1);
        }
    }

    /** A loop over nothing would let a sentence pass untested. */
    private void closeSentence() {
        if (!sentence.isEmpty() && asked == askedBefore) {
            wrong++;
            System.out.println(place() + "nothing was asked");
        }
    }

    private String place() {
        return sentence.isEmpty() ? test + ": " : test + ": '" + sentence + "': ";
    }
}
