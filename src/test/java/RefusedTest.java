import java.util.function.Function;
import java.util.function.Supplier;

/** Refused calls and questions change nothing: all that calls tell after one is as it was before. */
public final class RefusedTest {
    public static void main(String[] args) {
        readRefused();
        letterRefused();
        containedRefused();
        overlapRefused();
        buildRefused();
        edgeRefused();
        wayRefused();
        safeRefused();
        walksRefused();
        walkRefused();
        spelledRefused();
        refusedWhenEmpty();
        questionsChangeNothing();
        Check.end();
    }

    /** Reads, one of them contained, with a graph and walks. */
    private static ReadGraph some() {
        return Graphs.found(Graphs.built(1, "0231", "1220", "1330", "023"));
    }

    /** Nine reads with a graph and walks. */
    private static ReadGraph full() {
        return Graphs.found(Graphs.shortened());
    }

    private static void refused(Supplier<ReadGraph> made, String call, String due, Function<ReadGraph, Object> asked) {
        ReadGraph graph = made.get();
        Check.same(call, due, () -> asked.apply(graph));
        Check.same("all that is told after " + call, picture(made.get()), () -> picture(graph));
    }

    private static void refusedBoth(String call, String due, Function<ReadGraph, Object> asked) {
        refused(RefusedTest::some, call, due, asked);
        refused(RefusedTest::full, "nine reads, " + call, due, asked);
    }

    private static void argument(String call, Function<ReadGraph, Object> asked) {
        refusedBoth(call, Check.ARGUMENT, asked);
    }

    private static void readRefused() {
        Check.sentence("2: a refused read");
        argument("read(27, 2)", graph -> graph.read(27, 2));
        argument("read(27, 13)", graph -> graph.read(27, 13));
        refused(RefusedTest::full, "a tenth read", Check.STATE, graph -> graph.read(27, 4));
        refused(Graphs::fiftyOne, "a tenth read", Check.STATE, graph -> graph.read(27, 12));
    }

    private static void letterRefused() {
        Check.sentence("4: a refused letter");
        argument("letter(-1, 0)", graph -> graph.letter(-1, 0));
        argument("letter(9, 0)", graph -> graph.letter(9, 0));
        refusedBoth("letter(0, -2)", Check.INDEX, graph -> graph.letter(0, -2));
        refusedBoth("letter(0, 12)", Check.INDEX, graph -> graph.letter(0, 12));
    }

    private static void containedRefused() {
        Check.sentence("5: a refused contained");
        argument("contained(-1)", graph -> graph.contained(-1));
        argument("contained(9)", graph -> graph.contained(9));
    }

    private static void overlapRefused() {
        Check.sentence("6: a refused overlap");
        argument("overlap(-1, 0, 1)", graph -> graph.overlap(-1, 0, 1));
        argument("overlap(0, 9, 1)", graph -> graph.overlap(0, 9, 1));
        argument("overlap(1, 1, 1)", graph -> graph.overlap(1, 1, 1));
        argument("overlap(0, 1, 0)", graph -> graph.overlap(0, 1, 0));
        argument("overlap(0, 1, 13)", graph -> graph.overlap(0, 1, 13));
        refused(RefusedTest::some, "overlap(0, 3, 1)", Check.ARGUMENT, graph -> graph.overlap(0, 3, 1));
    }

    private static void buildRefused() {
        Check.sentence("7: a refused build");
        argument("build(0)", graph -> graph.build(0));
        argument("build(13)", graph -> graph.build(13));
    }

    private static void edgeRefused() {
        Check.sentence("9: a refused edge");
        argument("edge(0, -1)", graph -> graph.edge(0, -1));
        argument("edge(0, 4)", graph -> graph.edge(0, 4));
        refusedBoth("edge(-1, 0)", Check.ELEMENT, graph -> graph.edge(-1, 0));
        refusedBoth("edge(10, 0)", Check.ELEMENT, graph -> graph.edge(10, 0));
    }

    private static void wayRefused() {
        Check.sentence("10: a refused way");
        argument("way(-1, 0)", graph -> graph.way(-1, 0));
        argument("way(0, 9)", graph -> graph.way(0, 9));
        refused(RefusedTest::some, "way(3, 0)", Check.ARGUMENT, graph -> graph.way(3, 0));
    }

    private static void safeRefused() {
        Check.sentence("12: a refused safe");
        argument("safe(0, 0)", graph -> graph.safe(0, 0));
        argument("safe(0, 9)", graph -> graph.safe(0, 9));
        argument("safe(10, 1)", graph -> graph.safe(10, 1));
        argument("safe(0, 2), no walk", graph -> graph.safe(0, 2));
    }

    private static void walksRefused() {
        Check.sentence("13: a refused walks");
        refused(Graphs::ring, "walks() of a cycle", Check.STATE, graph -> graph.walks());
        refused(Graphs::line, "walks() of a line", Check.STATE, graph -> graph.walks());
        refused(Graphs::fiftyOne, "walks() of 51", Check.STATE, graph -> graph.walks());
        refused(() -> Graphs.of("0231", "1220", "1330"), "walks() of reads alone", Check.STATE,
                graph -> graph.walks());
    }

    private static void walkRefused() {
        Check.sentence("14: a refused walk");
        refusedBoth("walk(-1, 0)", Check.ELEMENT, graph -> graph.walk(-1, 0));
        refusedBoth("walk(2, 0)", Check.ELEMENT, graph -> graph.walk(2, 0));
        refusedBoth("walk(0, -2)", Check.INDEX, graph -> graph.walk(0, -2));
        refusedBoth("walk(0, 16)", Check.INDEX, graph -> graph.walk(0, 16));
        refused(Graphs::twoRings, "walk(0, 0) before they are found", Check.ELEMENT, graph -> graph.walk(0, 0));
    }

    private static void spelledRefused() {
        Check.sentence("15: a refused spelled");
        refusedBoth("spelled(-1, 0)", Check.ELEMENT, graph -> graph.spelled(-1, 0));
        refusedBoth("spelled(2, 0)", Check.ELEMENT, graph -> graph.spelled(2, 0));
        refusedBoth("spelled(0, -2)", Check.INDEX, graph -> graph.spelled(0, -2));
        refusedBoth("spelled(0, 99)", Check.INDEX, graph -> graph.spelled(0, 99));
        refused(Graphs::twoRings, "spelled(0, 0) before they are found", Check.ELEMENT,
                graph -> graph.spelled(0, 0));
    }

    private static void refusedWhenEmpty() {
        Check.sentence("1 to 15: refused calls of an object without reads");
        empty("read(0, 2)", Check.ARGUMENT, graph -> graph.read(0, 2));
        empty("read(0, 13)", Check.ARGUMENT, graph -> graph.read(0, 13));
        empty("letter(0, 0)", Check.ARGUMENT, graph -> graph.letter(0, 0));
        empty("contained(0)", Check.ARGUMENT, graph -> graph.contained(0));
        empty("overlap(0, 1, 1)", Check.ARGUMENT, graph -> graph.overlap(0, 1, 1));
        empty("build(0)", Check.ARGUMENT, graph -> graph.build(0));
        empty("edge(0, 4)", Check.ARGUMENT, graph -> graph.edge(0, 4));
        empty("edge(0, 0)", Check.ELEMENT, graph -> graph.edge(0, 0));
        empty("way(0, 0)", Check.ARGUMENT, graph -> graph.way(0, 0));
        empty("safe(0, 1)", Check.ARGUMENT, graph -> graph.safe(0, 1));
        empty("walks()", Check.STATE, graph -> graph.walks());
        empty("walk(0, -1)", Check.ELEMENT, graph -> graph.walk(0, -1));
        empty("spelled(0, -1)", Check.ELEMENT, graph -> graph.spelled(0, -1));
    }

    private static void empty(String call, String due, Function<ReadGraph, Object> asked) {
        refused(ReadGraph::new, call, due, asked);
        ReadGraph graph = new ReadGraph();
        Check.answer(() -> asked.apply(graph));
        Check.same("a read after " + call, 0, () -> graph.read(27, 4));
        Check.letters(graph, 0, "0123");
    }

    private static void questionsChangeNothing() {
        Check.sentence("4 to 15: calls that only ask");
        ReadGraph graph = full();
        String before = picture(full());
        graph.overlap(0, 1, 1);
        graph.overlap(0, 1, 12);
        graph.way(0, 8);
        graph.safe(0x00010203040506L, 7);
        graph.letter(8, -1);
        graph.contained(8);
        Graphs.found(graph);
        graph.kind();
        graph.all();
        Check.same("all that is told after questions", before, () -> picture(graph));
    }

    /** All that can be asked of an object, in some 400 calls at most. */
    private static String picture(ReadGraph graph) {
        StringBuilder told = new StringBuilder();
        told.append("all ").append(graph.all()).append(" kind ").append(graph.kind());
        int reads = 0;
        while (tellRead(graph, reads, told)) {
            reads++;
        }
        for (int k = 0; tellEdge(graph, k, told); k++) {
            told.append(';');
        }
        for (int from = 0; from < reads; from++) {
            tellWays(graph, from, reads, told);
        }
        for (int k = 0; tellWalk(graph, k, told); k++) {
            told.append(';');
        }
        return told.toString();
    }

    private static boolean tellRead(ReadGraph graph, int read, StringBuilder told) {
        Object length = Check.answer(() -> graph.letter(read, -1));
        told.append(" read ").append(length);
        if (!(length instanceof Integer)) {
            return false;
        }
        for (int k = 0; k < (Integer) length; k++) {
            told.append(' ').append(graph.letter(read, k));
        }
        told.append(graph.contained(read) ? " contained" : " a node");
        return true;
    }

    private static boolean tellEdge(ReadGraph graph, int k, StringBuilder told) {
        Object from = Check.answer(() -> graph.edge(k, 0));
        told.append(" edge ").append(from);
        if (!(from instanceof Integer)) {
            return false;
        }
        told.append(' ').append(graph.edge(k, 1)).append(' ').append(graph.edge(k, 3));
        return true;
    }

    private static void tellWays(ReadGraph graph, int from, int reads, StringBuilder told) {
        int to = (from + 1) % reads;
        told.append(" way ").append(Check.answer(() -> graph.way(from, to)));
        told.append(' ').append(Check.answer(() -> graph.way(from, from)));
    }

    private static boolean tellWalk(ReadGraph graph, int k, StringBuilder told) {
        Object length = Check.answer(() -> graph.walk(k, -1));
        told.append(" walk ").append(length);
        if (!(length instanceof Integer)) {
            return false;
        }
        for (int i = 0; i < (Integer) length; i++) {
            told.append(' ').append(graph.walk(k, i));
        }
        int letters = graph.spelled(k, -1);
        told.append(" spells ");
        for (int i = 0; i < letters; i++) {
            told.append(graph.spelled(k, i));
        }
        return true;
    }
}
