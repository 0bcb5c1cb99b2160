/** Counts answers and prints the wrong ones. */
final class Due {
    private final String test;
    private int answers;
    private int wrong;
    private String sentence = "";

    Due(String test) {
        this.test = test;
    }

    /** What is looked at from here on, in the document's words. */
    void by(String words) {
        sentence = words;
    }

    void is(String call, long got, long want) {
        same(call, Long.toString(got), Long.toString(want));
    }

    void same(String call, String got, String want) {
        answers++;
        if (got.equals(want)) return;
        wrong++;
        System.out.println(sentence + ": " + call + " answered " + got + ", due is " + want);
    }

    /** To be called at the end of main: the exit code is 1 if an answer was wrong. */
    void end() {
        System.out.println(test + ": " + answers + " answers, " + wrong + " wrong");
        if (wrong != 0 || answers == 0) System.exit(1);
    }
}
