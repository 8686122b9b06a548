import java.util.function.LongSupplier;

/** Counts the answers that are due and those that are not. */
final class Check {
    static final long ILLEGAL_ARGUMENT = Long.MIN_VALUE + 1;
    static final long ILLEGAL_STATE = Long.MIN_VALUE + 2;
    static final long NO_SUCH_ELEMENT = Long.MIN_VALUE + 3;
    static final long INDEX_OUT_OF_BOUNDS = Long.MIN_VALUE + 4;
    private static final long OTHER_THROWN = Long.MIN_VALUE + 5;
    // A single fault can make a test answer wrong many thousand times.
    private static final int MOST_TOLD = 100;

    private int right = 0;
    private int wrong = 0;

    /** The answer of a call, or the number of the very exception that it throws. */
    static long answer(LongSupplier call) {
        try {
            return call.getAsLong();
        } catch (RuntimeException e) {
            Class<?> kind = e.getClass();
            return kind == IllegalArgumentException.class ? ILLEGAL_ARGUMENT
                    : kind == IllegalStateException.class ? ILLEGAL_STATE
                    : kind == java.util.NoSuchElementException.class ? NO_SUCH_ELEMENT
                    : kind == IndexOutOfBoundsException.class ? INDEX_OUT_OF_BOUNDS
                    : OTHER_THROWN;
        }
    }

    static boolean isThrown(long answer) {
        return answer >= ILLEGAL_ARGUMENT && answer <= OTHER_THROWN;
    }

    private static String told(long answer) {
        return answer == ILLEGAL_ARGUMENT ? "throws.IllegalArgumentException"
                : answer == ILLEGAL_STATE ? "throws.IllegalStateException"
                : answer == NO_SUCH_ELEMENT ? "throws.NoSuchElementException"
                : answer == INDEX_OUT_OF_BOUNDS ? "throws.IndexOutOfBoundsException"
                : answer == OTHER_THROWN ? "throws something else"
                : Long.toString(answer);
    }

    boolean due(String call, long want, LongSupplier got) {
        long answer = answer(got);
        if (answer == want) {
            right++;
            return true;
        }
        wrong++;
        if (wrong <= MOST_TOLD) {
            System.out.println(call + " answered " + told(answer) + ", due is " + told(want));
        }
        return false;
    }

    /** Ends the program: with 1 if an answer was wrong, or if none was asked for. */
    void end(String test) {
        System.out.println(test + ": " + right + " answers right, " + wrong + " wrong");
        System.exit(wrong == 0 && right > 0 ? 0 : 1);
    }
}
