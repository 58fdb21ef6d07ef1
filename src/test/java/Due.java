/** Counts the answers that are not the ones that are due, and ends the test by that. */
final class Due {
    private int asked;
    private int wrong;
    private String sentence = "";

    /** What comes next is held against these words, which must stand so in the document. */
    void about(String words) {
        sentence = "[" + words + "] ";
        is("the document's words", Doc.says(words), true);
    }

    void is(String call, long got, long want) {
        asked++;
        if (got != want) {
            wrong++;
            System.out.println(sentence + call + " answered " + got + ", due is " + want);
        }
    }

    void is(String call, boolean got, boolean want) {
        is(call, got ? 1 : 0, want ? 1 : 0);
    }

    void end() {
        System.out.println(asked + " answers, " + wrong + " not as due");
        if (wrong > 0 || asked == 0) {
            System.exit(1);
        }
    }
}
