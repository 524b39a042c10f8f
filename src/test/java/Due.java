/** Counts and prints the answers that are not the due ones. A test ends with {@link #close}. */
final class Due {
    private final String test;
    private int asked = 0;
    private int wrong = 0;

    Due(String test) {
        this.test = test;
    }

    void equal(String call, long got, long want) {
        asked++;
        if (got != want) {
            wrong++;
            System.out.println(test + ": " + call + " answered " + got + ", due is " + want);
        }
    }

    void holds(String what, boolean held) {
        asked++;
        if (!held) {
            wrong++;
            System.out.println(test + ": " + what + " does not hold");
        }
    }

    int asked() {
        return asked;
    }

    /** Stops a comparison of long runs early, where one fault would print thousands of lines. */
    boolean isHopeless() {
        return wrong > 20;
    }

    void close() {
        System.out.println(test + ": " + asked + " asked, " + wrong + " wrong");
        if (wrong > 0 || asked == 0) {
            System.exit(1);
        }
    }
}
