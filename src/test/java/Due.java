/** Compares answers with those that are due, prints the wrong ones and ends the test with 1 if there was one. */
final class Due {
    private static final int SHOWN = 40;
    private String sentence = "";
    private int askedBySentence = 1;
    private int asked;
    private int wrong;

    /** The words of the document by which the answers from here on are due. */
    void by(String words) {
        endSentence();
        sentence = words;
        askedBySentence = 0;
    }

    void is(String call, long got, long want) {
        asked++;
        askedBySentence++;
        if (got != want) {
            tellWrong(call + " answered " + got + ", due is " + want);
        }
    }

    void is(String call, boolean got, boolean want) {
        is(call, got ? 1L : 0L, want ? 1L : 0L);
    }

    void end() {
        endSentence();
        System.out.println(asked + " answers, " + wrong + " not as due");
        if (wrong != 0 || asked == 0) {
            System.exit(1);
        }
    }

    private void endSentence() {
        if (askedBySentence == 0) {
            tellWrong("nothing was asked");
        }
    }

    private void tellWrong(String what) {
        wrong++;
        if (wrong <= SHOWN) {
            System.out.println(what + (sentence.isEmpty() ? "" : " by \"" + sentence + "\""));
        }
    }
}
