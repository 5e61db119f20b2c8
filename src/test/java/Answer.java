import java.util.NoSuchElementException;

/** What a call answered, an exception as a number that no call answers. */
final class Answer {
    static final long NO_ELEMENT = Long.MIN_VALUE + 1;
    static final long BAD_ARGUMENT = Long.MIN_VALUE + 2;
    static final long OTHER_EXCEPTION = Long.MIN_VALUE + 3;

    private Answer() {
    }

    interface Call {
        long make();
    }

    static long of(Call call) {
        try {
            return call.make();
        } catch (RuntimeException e) {
            return e.getClass() == NoSuchElementException.class ? NO_ELEMENT
                : e.getClass() == IllegalArgumentException.class ? BAD_ARGUMENT : OTHER_EXCEPTION;
        }
    }

    static long one(boolean answer) {
        return answer ? 1 : 0;
    }

    static String name(long answer) {
        return answer == NO_ELEMENT ? "NoSuchElementException" : answer == BAD_ARGUMENT ? "IllegalArgumentException"
            : answer == OTHER_EXCEPTION ? "another exception" : String.valueOf(answer);
    }
}
