import java.util.concurrent.Callable;

/** Counts answers that are due and answers that are not. */
final class Checks {
    private int right = 0;
    private int wrong = 0;

    /** What a call answers, or the simple name of the exception that it throws. */
    static String answerOf(Callable<?> call) {
        try {
            return String.valueOf(call.call());
        } catch (Exception e) {
            return e.getClass().getSimpleName();
        }
    }

    void due(String name, Object want, Callable<?> call) {
        String got = answerOf(call);
        if (got.equals(String.valueOf(want))) {
            right++;
        } else {
            wrong++;
            System.out.println(name + " answered " + got + ", due is " + want);
        }
    }

    /** Prints what came out, and ends the program with 1 if an answer was wrong or none was asked. */
    void close(String test) {
        System.out.println(test + ": " + right + " answers as due, " + wrong + " not");
        if (wrong != 0 || right == 0) {
            System.exit(1);
        }
    }
}
