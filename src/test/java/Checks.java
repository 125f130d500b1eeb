/** Counts and prints the answers that are not the due ones. */
final class Checks {
    /** A call that may throw. */
    interface Call {
        long run();
    }

    private String place = "";
    private int asked;
    private int wrong;

    void at(String newPlace) {
        place = newPlace;
    }

    void due(String call, long want, long got) {
        asked++;
        if (got != want) {
            say(call + " answered " + got + ", due is " + want);
        }
    }

    void dueText(String call, String want, String got) {
        asked++;
        if (!want.equals(got)) {
            say(call + " answered " + got + ", due is " + want);
        }
    }

    void holds(String what, boolean holds) {
        asked++;
        if (!holds) {
            say(what + " does not hold");
        }
    }

    void index(String call, Call run) {
        dueText(call, "IndexOutOfBoundsException", thrown(run));
    }

    void argument(String call, Call run) {
        dueText(call, "IllegalArgumentException", thrown(run));
    }

    void state(String call, Call run) {
        dueText(call, "IllegalStateException", thrown(run));
    }

    private static String thrown(Call run) {
        try {
            return Long.toString(run.run());
        } catch (RuntimeException e) {
            return e.getClass().getSimpleName();
        }
    }

    private void say(String text) {
        wrong++;
        if (wrong <= 40) {
            System.out.println(place + ": " + text);
        }
    }

    /** Ends the program, with exit code 1 if an answer was wrong or nothing was asked. */
    void end() {
        System.out.println(asked + " answers, " + wrong + " wrong");
        if (wrong > 0 || asked == 0) {
            System.exit(1);
        }
    }
}
