/** Objects that tests begin with; reads are written as their letters. */
final class Graphs {
    private Graphs() {
    }

    static ReadGraph of(String... reads) {
        ReadGraph graph = new ReadGraph();
        for (String text : reads) {
            graph.read(packed(text), text.length());
        }
        return graph;
    }

    static ReadGraph built(int least, String... reads) {
        ReadGraph graph = of(reads);
        graph.build(least);
        return graph;
    }

    /** The walks are asked for; should that be refused, what is compared next tells. */
    static ReadGraph found(ReadGraph graph) {
        Check.answer(() -> graph.walks());
        return graph;
    }

    static int packed(String text) {
        int letters = 0;
        for (int k = 0; k < text.length(); k++) {
            letters = letters << 2 | text.charAt(k) - '0';
        }
        return letters;
    }

    /** Two rings that meet in node 0; edges 0: 0 to 1, 1: 0 to 2, 2: 1 to 0, 3: 2 to 0. */
    static ReadGraph twoRings() {
        return built(1, "0231", "1220", "1330");
    }

    /** A ring of four reads: edge k leads from read k to the next one. */
    static ReadGraph ring() {
        return built(3, "0123", "1230", "2301", "3012");
    }

    /** A ring of all nine reads: edge k leads from read k to the next one. */
    static ReadGraph ringOfNine() {
        return built(2, "20000", "00321", "21231", "31001", "0112", "12130", "30102", "02032", "3220");
    }

    /** Four windows of one line of letters, so that each overlaps all those behind it. */
    static ReadGraph line() {
        return built(1, "0011", "0112", "1122", "1223");
    }

    /** Nine reads in one line: edge k leads from read k to the next one. */
    static ReadGraph lineOfNine() {
        return built(2, "20131", "3130", "3010", "10033", "3302", "0203", "0311", "11113", "13323");
    }

    /**
     * A ring of nine with one edge that leaves out the last read. Edges 0 to 6 lead from read k to the
     * next one, 7: 7 to 0, 8: 7 to 8, 9: 8 to 0.
     */
    static ReadGraph shortened() {
        return built(2, "20123", "230111", "1130", "30332", "3222", "22033", "331000", "001320", "20120");
    }

    /**
     * Seven reads in a line and two by which one comes back. Edges 0 to 5 lead from read k to the next
     * one, 6: 6 to 7, 7: 6 to 8, 8: 7 to 0, 9: 8 to 0.
     */
    static ReadGraph twoWaysBack() {
        return built(2, "00312", "12301", "0111", "11221", "21323", "23120", "202202", "02200", "02000");
    }

    /** Three reads with an edge from each to each, every one of them a greatest walk. */
    static ReadGraph triangle() {
        return built(1, "010", "020", "030");
    }

    /** Nine reads that share their first and last letter only: the most edges there can be, 72. */
    static ReadGraph dense() {
        return built(1, "01110", "01120", "01130", "01210", "01220", "01230", "01310", "01320", "01330");
    }

    /** 50 greatest walks, the most there may be, in a graph of 52 edges. */
    static ReadGraph fifty() {
        return builtOfFives(412, 504, 229, 4, 200, 100, 224, 44, 120);
    }

    /** 51 greatest walks, one too many, in a graph of 51 edges. */
    static ReadGraph fiftyOne() {
        return builtOfFives(300, 76, 4, 248, 444, 141, 96, 232, 81);
    }

    private static ReadGraph builtOfFives(int... reads) {
        ReadGraph graph = new ReadGraph();
        for (int letters : reads) {
            graph.read(letters, 5);
        }
        graph.build(1);
        return graph;
    }
}
