/** Counts answers that are as due and prints those that are not. */
final class Due {
    private final String test;
    private int right = 0;
    private int wrong = 0;

    Due(String test) {
        this.test = test;
    }

    void is(String call, long want, long got) {
        if (got == want) {
            right++;
            return;
        }
        wrong++;
        System.out.println(test + ": " + call + " answered " + got + ", due is " + want);
    }

    void holds(String what, boolean so) {
        is(what, 1, so ? 1 : 0);
    }

    /** Ends the program with exit code 1 if an answer was wrong, or none was looked at. */
    void end() {
        System.out.println(test + ": " + right + " answers as due, " + wrong + " not");
        if (wrong > 0 || right == 0) {
            System.exit(1);
        }
    }
}
