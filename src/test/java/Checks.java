/** Counts the answers that are not as due, and tells them with the sentence they were asked for. */
final class Checks {
    private int wrong = 0;
    private String sentence = "";

    /** The sentence of the document, or the matter, that the next answers are due to. */
    void about(String words) {
        sentence = words + ": ";
    }

    void due(String call, long got, long want) {
        if (got != want) {
            tell(call, String.valueOf(got), String.valueOf(want));
        }
    }

    void due(String call, String got, String want) {
        if (!got.equals(want)) {
            tell(call, got, want);
        }
    }

    private void tell(String call, String got, String want) {
        wrong++;
        System.out.println(sentence + call + " answered " + got + ", due is " + want);
    }

    boolean anyWrong() {
        return wrong > 0;
    }

    /** Ends the program with exit code 1 if an answer was wrong. */
    void finish() {
        System.out.println(wrong == 0 ? "all answers are as due" : wrong + " answers are not as due");
        if (wrong != 0) {
            System.exit(1);
        }
    }
}
