import java.util.NoSuchElementException;

/** Compares answers with those due; an answer that is thrown is a text, "throws." and the exception's name. */
final class Check {
    interface Call {
        Object answer();
    }

    static final String ARGUMENT = "throws.IllegalArgumentException";
    static final String STATE = "throws.IllegalStateException";
    static final String INDEX = "throws.IndexOutOfBoundsException";
    static final String ELEMENT = "throws.NoSuchElementException";

    private static int wrong = 0;

    private Check() {
    }

    static void same(String what, Object due, Call call) {
        Object got = answer(call);
        if (!due.equals(got)) {
            wrong++;
            System.out.println(what + " answered " + got + ", due is " + due);
        }
    }

    static Object answer(Call call) {
        try {
            return call.answer();
        } catch (RuntimeException e) {
            return "throws." + e.getClass().getSimpleName();
        }
    }

    static void end() {
        if (wrong > 0) {
            System.out.println(wrong + " answers are wrong");
            System.exit(1);
        }
    }

    static IllegalArgumentException argument() {
        return new IllegalArgumentException();
    }

    static IllegalStateException state() {
        return new IllegalStateException();
    }

    static IndexOutOfBoundsException index() {
        return new IndexOutOfBoundsException();
    }

    static NoSuchElementException element() {
        return new NoSuchElementException();
    }
}
