/** Compares answers with those that are due, and ends a test's run. */
final class Due {
    private int wrong = 0;
    private int sentences = 0;
    private String sentence = "";

    /** The sentence of the document that the next answers are about. */
    void says(String place, String words) {
        sentences++;
        sentence = place + ", '" + words + "': ";
    }

    void is(String call, long got, long want) {
        if (got != want) {
            wrong++;
            System.out.println(sentence + call + " answered " + got + ", due is " + want);
        }
    }

    void holds(String what, boolean so) {
        if (!so) {
            wrong++;
            System.out.println(sentence + "does not hold: " + what);
        }
    }

    void end(String test) {
        String about = sentences == 0 ? "" : " (" + sentences + " sentences)";
        System.out.println(test + ": " + (wrong == 0 ? "all answers are as due" : wrong + " answers are not as due") + about);
        if (wrong != 0) {
            System.exit(1);
        }
    }
}
