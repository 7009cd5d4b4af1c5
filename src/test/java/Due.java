/** Counts the answers that are not the ones that are due, and prints them. */
final class Due {
    private int asked = 0;
    private int wrong = 0;

    void is(String call, long got, long want) {
        asked++;
        if (got != want) {
            wrong++;
            System.out.println(call + " answered " + got + ", due is " + want);
        }
    }

    void is(String call, float got, float want) {
        asked++;
        if (Float.compare(got, want) != 0) {
            wrong++;
            System.out.println(call + " answered " + got + ", due is " + want);
        }
    }

    void holds(String fact, boolean isSo) {
        asked++;
        if (!isSo) {
            wrong++;
            System.out.println("does not hold: " + fact);
        }
    }

    /** What the call answers after the story. */
    void is(String what, Story story, Story.Call call, double want) {
        double got = story.answer(call);
        holds(what + " answered " + got + ", due is " + want, Double.compare(got, want) == 0);
    }

    /** What the call answers, and that it changes nothing, as far as any later call could tell. */
    void unchanged(String what, Story story, Story.Call call, double want) {
        is(what, story, call, want);
        holds(what + " changes nothing", story.and(x -> call.on(x)).all().equals(story.all()));
    }

    /** Ends the test, with exit code 1 if an answer was wrong. */
    void end() {
        System.out.println(asked + " answers asked, " + wrong + " not as due");
        if (wrong != 0 || asked == 0) {
            System.exit(1);
        }
    }
}
