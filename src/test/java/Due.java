/** Counts the answers that are not the ones that are due, and prints them. */
final class Due {
    private int asked = 0;
    private int wrong = 0;

    void is(String call, long got, long want) {
        asked++;
        if (got != want) {
            wrong++;
            System.out.println(call + " answered " + got + ", due is " + want);
        }
    }

    void is(String call, float got, float want) {
        asked++;
        if (Float.compare(got, want) != 0) {
            wrong++;
            System.out.println(call + " answered " + got + ", due is " + want);
        }
    }

    void holds(String fact, boolean isSo) {
        asked++;
        if (!isSo) {
            wrong++;
            System.out.println("does not hold: " + fact);
        }
    }

    /** Ends the test, with exit code 1 if an answer was wrong. */
    void end() {
        System.out.println(asked + " answers asked, " + wrong + " not as due");
        if (wrong != 0 || asked == 0) {
            System.exit(1);
        }
    }
}
