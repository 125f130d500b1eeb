/** Counts and prints the answers that are not the due ones. */
final class Checks {
    /** A call that may throw. */
    interface Call {
        long run();
    }

    /** A call that may throw, of a number that changes from call to call. */
    interface CallOf {
        long run(int number);
    }

    private final boolean isQuiet;
    private String place = "";
    private int asked;
    private int wrong;

    Checks() {
        this(false);
    }

    Checks(boolean isQuiet) {
        this.isQuiet = isQuiet;
    }

    void at(String newPlace) {
        place = newPlace;
    }

    int asked() {
        return asked;
    }

    int wrong() {
        return wrong;
    }

    void due(String call, long want, long got) {
        asked++;
        if (got != want) {
            say(call + " answered " + got + ", due is " + want);
        }
    }

    void dueText(String call, String want, String got) {
        asked++;
        if (!want.equals(got)) {
            say(call + " answered " + got + ", due is " + want);
        }
    }

    void holds(String what, boolean holds) {
        asked++;
        if (!holds) {
            say(what + " does not hold");
        }
    }

    void index(String call, Call run) {
        dueText(call, "IndexOutOfBoundsException", answer(run));
    }

    void argument(String call, Call run) {
        dueText(call, "IllegalArgumentException", answer(run));
    }

    void state(String call, Call run) {
        dueText(call, "IllegalStateException", answer(run));
    }

    // The same without a name: the line in the test tells which call it is.

    void due(long want, long got) {
        due("the call", want, got);
    }

    void dueText(String want, String got) {
        dueText("the call", want, got);
    }

    void holds(boolean holds) {
        holds("this", holds);
    }

    void index(Call run) {
        index("the call", run);
    }

    void argument(Call run) {
        argument("the call", run);
    }

    void state(Call run) {
        state("the call", run);
    }

    /** No number outside is taken: neither the next ones nor those far away. */
    void indexOutside(int least, int greatest, CallOf run) {
        for (int number : outside(least, greatest)) {
            index("the call of " + number, () -> run.run(number));
        }
    }

    void argumentOutside(int least, int greatest, CallOf run) {
        for (int number : outside(least, greatest)) {
            argument("the call of " + number, () -> run.run(number));
        }
    }

    /** Each number from the least to the greatest is taken. */
    void takes(int least, int greatest, CallOf run) {
        for (int number = least; number <= greatest; number++) {
            int taken = number;
            String got = answer(() -> run.run(taken));
            holds("the call of " + number + ", which answered " + got + ",", !got.endsWith("Exception"));
        }
    }

    private static int[] outside(int least, int greatest) {
        return new int[] {least - 1, greatest + 1, least - 256, greatest + 256, least + 65_536,
            Integer.MIN_VALUE, Integer.MAX_VALUE};
    }

    static String answer(Call run) {
        try {
            return Long.toString(run.run());
        } catch (RuntimeException e) {
            return e.getClass().getSimpleName();
        }
    }

    private void say(String text) {
        wrong++;
        if (!isQuiet && wrong <= 40) {
            System.out.println(place + ": " + line() + ": " + text);
        }
    }

    private static String line() {
        String self = Checks.class.getName();
        return StackWalker.getInstance().walk(frames -> frames
                .filter(frame -> !frame.getClassName().split("\\$")[0].equals(self))
                .findFirst().map(frame -> frame.getFileName() + ":" + frame.getLineNumber()).orElse(""));
    }

    /** Ends the program, with exit code 1 if an answer was wrong or nothing was asked. */
    void end() {
        System.out.println(asked + " answers, " + wrong + " wrong");
        if (wrong > 0 || asked == 0) {
            System.exit(1);
        }
    }
}
