/** Counts the answers that are not the ones that are due, sentence by sentence of the document. */
final class Due {
    private static final int MOST_TOLD = 40;

    private int wrong;
    private int asked;
    private String sentence;
    private int askedBefore;

    /** The answers that follow are the test of this sentence, which must have one. */
    void of(String newSentence) {
        endSentence();
        sentence = newSentence;
        askedBefore = asked;
    }

    void is(String call, long got, long want) {
        asked++;
        if (got != want) {
            tell(call + " answered " + got + ", due is " + want);
        }
    }

    /** An answer that was found right already, so that no text must be made for it. */
    void right() {
        asked++;
    }

    void holds(String what, boolean true_) {
        is(what, true_ ? 1 : 0, 1);
    }

    boolean anyWrong() {
        return wrong > 0;
    }

    /** Ends the test: exit code 1 if any answer was wrong, or none was asked for. */
    void end() {
        endSentence();
        System.out.println(asked + " answers, " + wrong + " wrong");
        System.exit(wrong == 0 && asked > 0 ? 0 : 1);
    }

    private void endSentence() {
        if (sentence != null && asked == askedBefore) {
            tell("no answer was asked for");
        }
    }

    private void tell(String fault) {
        wrong++;
        if (wrong <= MOST_TOLD) {
            System.out.println(sentence == null ? fault : "'" + sentence + "': " + fault);
        }
    }
}
