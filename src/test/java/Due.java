/** Counts and prints the answers that are not the ones due. */
final class Due {
    private int asked = 0;
    private int wrong = 0;
    private String sentence = "";
    private int askedOfSentence = 1;

    /** What is asked from here on is asked because of these words of the document. */
    void sentence(String words) {
        endSentence();
        sentence = words;
        askedOfSentence = 0;
    }

    /** Words of the document that nothing is asked of are not tested. */
    private void endSentence() {
        if (askedOfSentence == 0) {
            wrong++;
            System.out.println("[" + sentence + "] nothing was asked");
        }
    }

    void is(String call, long due, long got) {
        asked++;
        askedOfSentence++;
        if (got != due) {
            wrong++;
            String because = sentence.isEmpty() ? "" : "[" + sentence + "] ";
            System.out.println(because + call + " answered " + got + ", due is " + due);
        }
    }

    void yes(String call, boolean got) {
        is(call, 1, got ? 1 : 0);
    }

    void no(String call, boolean got) {
        is(call, 0, got ? 1 : 0);
    }

    /** The last call of a test: ends the program with 1 if an answer was wrong. */
    void end() {
        endSentence();
        System.out.println(asked + " answers, " + wrong + " not as due");
        if (wrong != 0 || asked == 0) {
            System.exit(1);
        }
    }
}
