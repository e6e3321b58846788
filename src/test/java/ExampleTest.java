/** The example of README.md, call by call: what it tells its reader must stay true. */
public final class ExampleTest {
    public static void main(String[] args) {
        Check.sentence("README.md");
        ReadGraph graph = new ReadGraph();
        Check.same("the read 0 2 3 1", 0, () -> graph.read(0b00_10_11_01, 4));
        Check.same("the read 1 2 2 0", 1, () -> graph.read(0b01_10_10_00, 4));
        Check.same("the read 1 3 3 0", 2, () -> graph.read(0b01_11_11_00, 4));
        Check.same("build(1)", 4, () -> graph.build(1));
        Check.same("edge(3, 0)", 2, () -> graph.edge(3, 0));
        Check.same("edge(3, 1)", 0, () -> graph.edge(3, 1));
        Check.same("kind()", 2, () -> graph.kind());
        Check.same("safe(0x0002, 2)", true, () -> graph.safe(0x0002, 2));
        Check.same("safe(0x0200, 2)", false, () -> graph.safe(0x0200, 2));
        Check.same("walks()", 2, () -> graph.walks());
        Check.same("walk(0, -1)", 2, () -> graph.walk(0, -1));
        Check.same("walk(0, 1)", 2, () -> graph.walk(0, 1));
        Check.spelled(graph, 0, "0231220231");
        Check.end();
    }
}
