import java.util.NoSuchElementException;

/** Compares answers with those due; an answer that is thrown is a text, "throws." and the exception's name. */
final class Check {
    interface Call {
        Object answer();
    }

    static final String ARGUMENT = "throws.IllegalArgumentException";
    static final String STATE = "throws.IllegalStateException";
    static final String INDEX = "throws.IndexOutOfBoundsException";
    static final String ELEMENT = "throws.NoSuchElementException";

    static final int LOW = Integer.MIN_VALUE;
    static final int HIGH = Integer.MAX_VALUE;

    private static String sentence = "";
    private static int wrong = 0;

    private Check() {
    }

    /** Begins the test of one sentence of the document: what is compared from here on is told under it. */
    static void sentence(String words) {
        sentence = "[" + words + "] ";
    }

    static void same(String what, Object due, Call call) {
        Object got = answer(call);
        if (!due.equals(got)) {
            wrong++;
            System.out.println(sentence + what + " answered " + got + ", due is " + due);
        }
    }

    static Object answer(Call call) {
        try {
            return call.answer();
        } catch (RuntimeException e) {
            return "throws." + e.getClass().getSimpleName();
        }
    }

    /** Compares all letters of a read, and how many they are. */
    static void letters(ReadGraph graph, int read, String due) {
        same("letter(" + read + ", -1)", due.length(), () -> graph.letter(read, -1));
        for (int k = 0; k < due.length(); k++) {
            int place = k;
            same("letter(" + read + ", " + k + ")", due.charAt(k) - '0', () -> graph.letter(read, place));
        }
    }

    /** Compares where the edges lead from and to, and that there are no more. */
    static void edges(ReadGraph graph, int[]... due) {
        for (int k = 0; k < due.length; k++) {
            int number = k;
            same("edge(" + k + ", 0)", due[k][0], () -> graph.edge(number, 0));
            same("edge(" + k + ", 1)", due[k][1], () -> graph.edge(number, 1));
        }
        same("edge(" + due.length + ", 0)", ELEMENT, () -> graph.edge(due.length, 0));
    }

    /** Compares the edges of all greatest walks, and that there are no more. */
    static void walks(ReadGraph graph, int[]... due) {
        for (int k = 0; k < due.length; k++) {
            int number = k;
            same("walk(" + k + ", -1)", due[k].length, () -> graph.walk(number, -1));
            for (int i = 0; i < due[k].length; i++) {
                int place = i;
                same("walk(" + k + ", " + i + ")", due[k][i], () -> graph.walk(number, place));
            }
        }
        same("walk(" + due.length + ", -1)", ELEMENT, () -> graph.walk(due.length, -1));
    }

    /** Compares all letters that a greatest walk spells, and how many they are. */
    static void spelled(ReadGraph graph, int k, String due) {
        same("spelled(" + k + ", -1)", due.length(), () -> graph.spelled(k, -1));
        for (int i = 0; i < due.length(); i++) {
            int place = i;
            same("spelled(" + k + ", " + i + ")", due.charAt(i) - '0', () -> graph.spelled(k, place));
        }
    }

    static void noWalks(ReadGraph graph) {
        same("walk(0, -1) without walks", ELEMENT, () -> graph.walk(0, -1));
        same("spelled(0, -1) without walks", ELEMENT, () -> graph.spelled(0, -1));
    }

    static void noGraph(ReadGraph graph) {
        noWalks(graph);
        same("all() without a graph", 0, () -> graph.all());
        same("kind() without a graph", 0, () -> graph.kind());
        same("edge(0, 0) without a graph", ELEMENT, () -> graph.edge(0, 0));
        same("safe(0, 1) without a graph", ARGUMENT, () -> graph.safe(0, 1));
        same("walks() without a graph", STATE, () -> graph.walks());
    }

    static void end() {
        if (wrong > 0) {
            System.out.println(wrong + " answers are wrong");
            System.exit(1);
        }
    }

    static IllegalArgumentException argument() {
        return new IllegalArgumentException();
    }

    static IllegalStateException state() {
        return new IllegalStateException();
    }

    static IndexOutOfBoundsException index() {
        return new IndexOutOfBoundsException();
    }

    static NoSuchElementException element() {
        return new NoSuchElementException();
    }
}
