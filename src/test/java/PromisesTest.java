/** Each promise of the document in turn: ordinary inputs, the edges that it names, wrong inputs. */
public final class PromisesTest {
    /** 50 greatest walks, the most there may be. */
    private static final int[] FIFTY = {412, 504, 229, 4, 200, 100, 224, 44, 120};
    private static final int[] FIFTY_ONE = {300, 76, 4, 248, 444, 141, 96, 232, 81};

    private static final int LOW = Integer.MIN_VALUE;
    private static final int HIGH = Integer.MAX_VALUE;

    public static void main(String[] args) {
        newObject();
        read();
        readDropsTheGraph();
        clear();
        letter();
        contained();
        overlap();
        build();
        buildDropsWalksOnly();
        all();
        edge();
        edgesAreTakenAwayAtOnce();
        way();
        kind();
        safe();
        safeOutsideStrongGraphs();
        safeLooksAtItsBytes();
        walks();
        tooManyWalks();
        walk();
        spelled();
        Check.end();
    }

    private static ReadGraph of(String... reads) {
        ReadGraph graph = new ReadGraph();
        for (String text : reads) {
            graph.read(packed(text), text.length());
        }
        return graph;
    }

    private static int packed(String text) {
        int letters = 0;
        for (int k = 0; k < text.length(); k++) {
            letters = letters << 2 | text.charAt(k) - '0';
        }
        return letters;
    }

    /** Two rings that meet in node 0; edges 0: 0 to 1, 1: 0 to 2, 2: 1 to 0, 3: 2 to 0. */
    private static ReadGraph eight() {
        ReadGraph graph = of("0231", "1220", "1330");
        graph.build(1);
        return graph;
    }

    /** A ring of four reads: edge k leads from read k to the next one. */
    private static ReadGraph ring() {
        ReadGraph graph = of("0123", "1230", "2301", "3012");
        graph.build(3);
        return graph;
    }

    /** Four windows of one line of letters, so that each overlaps all those behind it. */
    private static ReadGraph line() {
        ReadGraph graph = of("0011", "0112", "1122", "1223");
        graph.build(1);
        return graph;
    }

    private static void newObject() {
        ReadGraph graph = new ReadGraph();
        Check.same("1: all()", 0, () -> graph.all());
        Check.same("1: kind()", 0, () -> graph.kind());
        Check.same("1: letter(0, -1)", Check.ARGUMENT, () -> graph.letter(0, -1));
        Check.same("1: edge(0, 0)", Check.ELEMENT, () -> graph.edge(0, 0));
        Check.same("1: walk(0, -1)", Check.ELEMENT, () -> graph.walk(0, -1));
        Check.same("1: spelled(0, -1)", Check.ELEMENT, () -> graph.spelled(0, -1));
        Check.same("1: build(1)", 0, () -> graph.build(1));
        Check.same("1: walks()", Check.STATE, () -> graph.walks());
        Check.same("1: read", 0, () -> graph.read(0, 3));
    }

    private static void read() {
        ReadGraph graph = new ReadGraph();
        for (int n : new int[] {LOW, -1, 0, 2, 13, 16, HIGH}) {
            Check.same("2: read(0, " + n + ")", Check.ARGUMENT, () -> graph.read(0, n));
        }
        Check.same("2: the first number", 0, () -> graph.read(27, 4));
        Check.same("2: the second number", 1, () -> graph.read(-1, 12));
        Check.same("2: the third number", 2, () -> graph.read(packed("3333012"), 3));
        checkLetters("2", graph, 0, "0123");
        checkLetters("2", graph, 1, "333333333333");
        checkLetters("2", graph, 2, "012");
        for (int number = 3; number < 9; number++) {
            int due = number;
            Check.same("2: number " + due, due, () -> graph.read(due, 5));
        }
        Check.same("2: a tenth read", Check.STATE, () -> graph.read(0, 4));
        Check.same("2: a tenth read with no such n", Check.ARGUMENT, () -> graph.read(0, 2));
        Check.same("2: the ninth is there", 5, () -> graph.letter(8, -1));
        Check.same("2: the tenth is not", Check.ARGUMENT, () -> graph.letter(9, -1));
    }

    private static void checkLetters(String promise, ReadGraph graph, int read, String text) {
        for (int k = 0; k < text.length(); k++) {
            int place = k;
            Check.same(promise + ": letter(" + read + ", " + k + ")", text.charAt(k) - '0',
                    () -> graph.letter(read, place));
        }
        Check.same(promise + ": letter(" + read + ", -1)", text.length(), () -> graph.letter(read, -1));
    }

    private static void readDropsTheGraph() {
        ReadGraph graph = eight();
        graph.walks();
        Check.same("2: a read refused", Check.ARGUMENT, () -> graph.read(0, 13));
        Check.same("2: edges stay when a read is refused", 4, () -> graph.all());
        Check.same("2: walks stay when a read is refused", 2, () -> graph.walk(0, -1));
        Check.same("2: a read more", 3, () -> graph.read(0, 3));
        checkNoGraph("2", graph);
        Check.same("2: no way is left", false, () -> graph.way(0, 1));
        Check.same("2: no edge is left for safe", Check.ARGUMENT, () -> graph.safe(0, 1));
    }

    private static void checkNoGraph(String promise, ReadGraph graph) {
        Check.same(promise + ": all() without a graph", 0, () -> graph.all());
        Check.same(promise + ": kind() without a graph", 0, () -> graph.kind());
        Check.same(promise + ": edge without a graph", Check.ELEMENT, () -> graph.edge(0, 0));
        Check.same(promise + ": walk without a graph", Check.ELEMENT, () -> graph.walk(0, -1));
        Check.same(promise + ": spelled without a graph", Check.ELEMENT, () -> graph.spelled(0, -1));
        Check.same(promise + ": walks() without a graph", Check.STATE, () -> graph.walks());
    }

    private static void clear() {
        ReadGraph graph = eight();
        graph.walks();
        graph.clear();
        checkNoGraph("3", graph);
        Check.same("3: no read is left", Check.ARGUMENT, () -> graph.letter(0, -1));
        Check.same("3: no node is left", Check.ARGUMENT, () -> graph.way(0, 0));
        Check.same("3: a read after clear", 0, () -> graph.read(packed("2012"), 4));
        checkLetters("3", graph, 0, "2012");
        Check.same("3: one read only", Check.ARGUMENT, () -> graph.contained(1));
        Check.same("3: it is a node", false, () -> graph.contained(0));
        Check.same("3: build after clear", 0, () -> graph.build(1));
    }

    private static void letter() {
        ReadGraph graph = of("012", "330123210112");
        checkLetters("4", graph, 0, "012");
        checkLetters("4", graph, 1, "330123210112");
        for (int read : new int[] {LOW, -1, 2, HIGH}) {
            Check.same("4: letter(" + read + ", 0)", Check.ARGUMENT, () -> graph.letter(read, 0));
            Check.same("4: letter(" + read + ", 99)", Check.ARGUMENT, () -> graph.letter(read, 99));
        }
        for (int k : new int[] {LOW, -2, 3, 12, HIGH}) {
            Check.same("4: letter(0, " + k + ")", Check.INDEX, () -> graph.letter(0, k));
        }
        Check.same("4: letter(1, 12)", Check.INDEX, () -> graph.letter(1, 12));
    }

    private static void contained() {
        ReadGraph graph = of("123", "01230", "0123", "01230", "1230", "013", "0000", "000");
        boolean[] due = {true, false, true, true, true, false, false, true};
        for (int read = 0; read < due.length; read++) {
            int number = read;
            Check.same("5: contained(" + read + ")", due[read], () -> graph.contained(number));
        }
        for (int read : new int[] {LOW, -1, 8, HIGH}) {
            Check.same("5: contained(" + read + ")", Check.ARGUMENT, () -> graph.contained(read));
        }
        graph.read(packed("3012303"), 7);
        Check.same("5: a longer read may come later", true, () -> graph.contained(1));
        Check.same("5: that one is not contained", false, () -> graph.contained(8));
    }

    private static void overlap() {
        ReadGraph graph = of("0101012", "1201010", "010", "222", "0101012");
        Check.same("6: the greatest of three", 5, () -> graph.overlap(1, 0, 1));
        Check.same("6: just least", 5, () -> graph.overlap(1, 0, 5));
        Check.same("6: below least", 0, () -> graph.overlap(1, 0, 6));
        Check.same("6: the other way round", 2, () -> graph.overlap(0, 1, 1));
        Check.same("6: 12 is a least", 0, () -> graph.overlap(0, 1, 12));
        Check.same("6: one letter", 1, () -> graph.overlap(0, 3, 1));
        Check.same("6: none", 0, () -> graph.overlap(3, 0, 1));
        int[][] wrong = {{2, 0, 1}, {0, 2, 1}, {4, 1, 1}, {1, 4, 1}, {0, 0, 1}, {-1, 0, 1}, {0, -1, 1}, {5, 0, 1},
            {0, 5, 1}, {0, 9, 1}, {LOW, 0, 1}, {0, HIGH, 1}, {1, 0, 0}, {1, 0, 13}, {1, 0, LOW}, {1, 0, HIGH}};
        for (int[] one : wrong) {
            Check.same("6: overlap(" + one[0] + ", " + one[1] + ", " + one[2] + ")", Check.ARGUMENT,
                    () -> graph.overlap(one[0], one[1], one[2]));
        }
    }

    private static void build() {
        ReadGraph graph = of("0123", "1230", "2301", "3012", "012", "0123");
        Check.same("7: build(1)", 4, () -> graph.build(1));
        Check.same("7: all edges for 1", 12, () -> graph.all());
        Check.same("7: build(2)", 4, () -> graph.build(2));
        Check.same("7: all edges for 2", 8, () -> graph.all());
        Check.same("7: build(3)", 4, () -> graph.build(3));
        Check.same("7: all edges for 3", 4, () -> graph.all());
        Check.same("7: build(12)", 0, () -> graph.build(12));
        Check.same("7: all edges for 12", 0, () -> graph.all());
        Check.same("7: one letter left over is not said", 4, () -> eight().all());
    }

    private static void buildDropsWalksOnly() {
        ReadGraph graph = eight();
        graph.walks();
        for (int least : new int[] {LOW, -1, 0, 13, HIGH}) {
            Check.same("7: build(" + least + ")", Check.ARGUMENT, () -> graph.build(least));
        }
        Check.same("7: edges stay when build is refused", 4, () -> graph.all());
        Check.same("7: walks stay when build is refused", 2, () -> graph.walk(0, -1));
        Check.same("7: build again", 4, () -> graph.build(1));
        Check.same("7: no walks any more", Check.ELEMENT, () -> graph.walk(0, -1));
        Check.same("7: nothing spelled any more", Check.ELEMENT, () -> graph.spelled(0, -1));
        Check.same("7: reads stay", 4, () -> graph.letter(2, -1));
    }

    private static void all() {
        ReadGraph graph = line();
        Check.same("8: all() with three taken away", 6, () -> graph.all());
        Check.same("8: those left", 3, () -> graph.build(1));
        graph.build(2);
        Check.same("8: all() for 2", 5, () -> graph.all());
        graph.read(0, 3);
        Check.same("8: all() without a graph", 0, () -> graph.all());
    }

    private static void edge() {
        ReadGraph graph = of("00123", "123000", "30012", "0011");
        graph.build(2);
        // 2 to 1 (hang 4) is said by 2 to 0 (hang 1) and 0 to 1 (hang 3).
        int[][] due = {{0, 1, 3, 3}, {1, 0, 2, 3}, {1, 3, 2, 2}, {2, 0, 4, 1}};
        for (int k = 0; k < due.length; k++) {
            for (int what = 0; what < 4; what++) {
                int number = k;
                int asked = what;
                Check.same("9: edge(" + k + ", " + what + ")", due[k][what], () -> graph.edge(number, asked));
            }
        }
        for (int k : new int[] {LOW, -1, due.length, 72, HIGH}) {
            Check.same("9: edge(" + k + ", 3)", Check.ELEMENT, () -> graph.edge(k, 3));
        }
        for (int what : new int[] {LOW, -1, 4, HIGH}) {
            Check.same("9: edge(0, " + what + ")", Check.ARGUMENT, () -> graph.edge(0, what));
            Check.same("9: edge(99, " + what + ")", Check.ARGUMENT, () -> graph.edge(99, what));
        }
    }

    private static void edgesAreTakenAwayAtOnce() {
        // 0 to 3 is said by 0 to 1 and 1 to 3 only, or 0 to 2 and 2 to 3, of which 1 to 3 and 0 to 2 go too.
        ReadGraph graph = line();
        for (int k = 0; k < 3; k++) {
            int number = k;
            Check.same("9: line, from of " + k, k, () -> graph.edge(number, 0));
            Check.same("9: line, to of " + k, k + 1, () -> graph.edge(number, 1));
            Check.same("9: line, hang of " + k, 1, () -> graph.edge(number, 3));
        }
        Check.same("9: line has no more", Check.ELEMENT, () -> graph.edge(3, 0));
    }

    private static void way() {
        ReadGraph graph = line();
        for (int from = 0; from < 4; from++) {
            for (int to = 0; to < 4; to++) {
                int one = from;
                int two = to;
                Check.same("10: way(" + from + ", " + to + ")", from < to, () -> graph.way(one, two));
                Check.same("10: ring way(" + from + ", " + to + ")", true, () -> ring().way(one, two));
            }
        }
        graph.read(packed("112"), 3);
        int[][] wrong = {{4, 0}, {0, 4}, {5, 0}, {0, 5}, {-1, 0}, {0, -1}, {9, 9}, {LOW, 0}, {0, HIGH}, {32, 0}};
        for (int[] one : wrong) {
            Check.same("10: way(" + one[0] + ", " + one[1] + ")", Check.ARGUMENT, () -> graph.way(one[0], one[1]));
        }
        Check.same("10: way(0, 1) without a graph", false, () -> graph.way(0, 1));
    }

    private static void kind() {
        Check.same("11: a line", 0, () -> line().kind());
        Check.same("11: a ring", 1, () -> ring().kind());
        Check.same("11: two rings", 2, () -> eight().kind());
        ReadGraph apart = of("0123", "1230", "2301", "3012", "1111");
        apart.build(3);
        Check.same("11: a ring and a node apart", 0, () -> apart.kind());
        ReadGraph withContained = of("0123", "1230", "2301", "3012", "123");
        Check.same("11: not built", 0, () -> withContained.kind());
        withContained.build(3);
        Check.same("11: contained reads do not count", 1, () -> withContained.kind());
        ReadGraph single = of("0110");
        single.build(1);
        Check.same("11: one node alone", 0, () -> single.kind());
        // As many edges as nodes, but no way back from the last one.
        ReadGraph tail = of("0123", "3220", "3112");
        Check.same("11: three edges", 3, () -> tail.build(1));
        Check.same("11: three edges and three nodes, not strong", 0, () -> tail.kind());
    }

    private static void safe() {
        ReadGraph graph = eight();
        for (int e = 0; e < 4; e++) {
            int one = e;
            Check.same("12: one edge, " + e, true, () -> graph.safe(one, 1));
        }
        Check.same("12: round the first ring", true, () -> graph.safe(0x0002, 2));
        Check.same("12: round the second ring", true, () -> graph.safe(0x0103, 2));
        Check.same("12: on into the same ring", false, () -> graph.safe(0x0200, 2));
        Check.same("12: on into the other ring", false, () -> graph.safe(0x0201, 2));
        Check.same("12: three edges", false, () -> graph.safe(0x000200, 3));
        Check.same("12: a ring is safe all round", true, () -> ring().safe(0x0001020300010203L, 8));
        Check.same("12: also from its middle", true, () -> ring().safe(0x0203000102L, 5));
    }

    private static void safeOutsideStrongGraphs() {
        Check.same("12: a line is safe", true, () -> line().safe(0x000102, 3));
        // Edges 0: 0 to 2, 1: 1 to 2, 2: 2 to 3, 3: 2 to 4: no way leads back to 2.
        ReadGraph cross = of("2221", "2331", "1003", "3220", "3330");
        Check.same("12: a cross has 4 edges", 4, () -> cross.build(1));
        Check.same("12: a cross, straight on", true, () -> cross.safe(0x0002, 2));
        Check.same("12: a cross, over", true, () -> cross.safe(0x0103, 2));
        // Edges 0: 0 to 1, 1: 0 to 2, 2: 0 to 3, 3: 1 to 0, 4: 2 to 0: two rings and an end.
        ReadGraph ended = of("0231", "1220", "1330", "1232");
        Check.same("12: two rings and an end have 5 edges", 5, () -> ended.build(1));
        Check.same("12: two rings and an end, not strong", 0, () -> ended.kind());
        Check.same("12: round a ring", true, () -> ended.safe(0x0003, 2));
        Check.same("12: from a ring to the end", false, () -> ended.safe(0x0302, 2));
        // Edges 0: 0 to 1, 1: 1 to 0, 2: 1 to 2: each node is come to over one edge alone.
        ReadGraph out = of("0123", "3220", "0331");
        Check.same("12: a ring and an end have 3 edges", 3, () -> out.build(1));
        Check.same("12: twice round and out", true, () -> out.safe(0x00010002L, 4));
    }

    private static void safeLooksAtItsBytes() {
        ReadGraph graph = eight();
        Check.same("12: bytes above do not matter", true, () -> graph.safe(0xffffffffff0002L, 2));
        Check.same("12: nor does the sign", true, () -> graph.safe(-256L, 1));
        Check.same("12: eight bytes with the sign", Check.ARGUMENT, () -> graph.safe(-1L, 8));
        for (int n : new int[] {LOW, -1, 0, 9, HIGH}) {
            Check.same("12: safe(0, " + n + ")", Check.ARGUMENT, () -> graph.safe(0, n));
        }
        Check.same("12: nine edges, whatever the bytes", Check.ARGUMENT, () -> ring().safe(0x0102030001020300L, 9));
        for (long edges : new long[] {4, 72, 128, 255}) {
            Check.same("12: no edge " + edges, Check.ARGUMENT, () -> graph.safe(edges, 1));
        }
        Check.same("12: no such first edge", Check.ARGUMENT, () -> graph.safe(0x0402, 2));
        Check.same("12: no walk", Check.ARGUMENT, () -> graph.safe(0x0001, 2));
        Check.same("12: no walk at the end", Check.ARGUMENT, () -> graph.safe(0x000203, 3));
        Check.same("12: an edge behind itself", Check.ARGUMENT, () -> graph.safe(0x0000, 2));
    }

    private static void walks() {
        ReadGraph graph = eight();
        Check.same("13: walks()", 2, () -> graph.walks());
        Check.same("13: walks() again", 2, () -> graph.walks());
        ReadGraph fifty = ofFives(FIFTY);
        Check.same("13: 52 edges", 52, () -> fifty.build(1));
        Check.same("13: 50 walks", 50, () -> fifty.walks());
        Check.same("13: the last one is there", true, () -> fifty.walk(49, -1) > 0);
        Check.same("13: one more is not", Check.ELEMENT, () -> fifty.walk(50, -1));
        for (int k = 1; k < 50; k++) {
            int number = k;
            Check.same("13: first edges in order, " + k, true,
                    () -> fifty.walk(number - 1, 0) <= fifty.walk(number, 0));
        }
    }

    private static ReadGraph ofFives(int[] reads) {
        ReadGraph graph = new ReadGraph();
        for (int letters : reads) {
            graph.read(letters, 5);
        }
        return graph;
    }

    private static void tooManyWalks() {
        // Nine reads that share their first and last letter only: an edge from each to each, all safe alone.
        ReadGraph dense = of("01110", "01120", "01130", "01210", "01220", "01230", "01310", "01320", "01330");
        Check.same("13: 72 edges", 72, () -> dense.build(1));
        Check.same("13: 72 edges, the last", 71, () -> dense.edge(71, 0) * 8 + dense.edge(71, 1));
        Check.same("13: 72 edges, strong", 2, () -> dense.kind());
        Check.same("13: 72 walks", Check.STATE, () -> dense.walks());
        Check.same("13: no walks then", Check.ELEMENT, () -> dense.walk(0, -1));
        Check.same("13: nothing spelled then", Check.ELEMENT, () -> dense.spelled(0, -1));
        Check.same("13: the edges are there still", 72, () -> dense.all());
        Check.same("13: 72 walks again", Check.STATE, () -> dense.walks());
        dense.clear();
        dense.read(packed("0231"), 4);
        dense.read(packed("1220"), 4);
        dense.read(packed("1330"), 4);
        dense.build(1);
        Check.same("13: fewer walks after too many", 2, () -> dense.walks());
        Check.same("13: the first of these", 2, () -> dense.walk(0, -1));
        ReadGraph one = ofFives(FIFTY_ONE);
        Check.same("13: 51 edges", 51, () -> one.build(1));
        Check.same("13: 51 walks", Check.STATE, () -> one.walks());
        Check.same("13: a ring", Check.STATE, () -> ring().walks());
        Check.same("13: a line", Check.STATE, () -> line().walks());
        Check.same("13: not built", Check.STATE, () -> of("0231", "1220", "1330").walks());
    }

    private static void walk() {
        ReadGraph graph = eight();
        Check.same("14: not found yet", Check.ELEMENT, () -> graph.walk(0, 0));
        graph.walks();
        int[][] due = {{0, 2}, {1, 3}};
        for (int k = 0; k < 2; k++) {
            int number = k;
            Check.same("14: walk(" + k + ", -1)", 2, () -> graph.walk(number, -1));
            for (int i = 0; i < 2; i++) {
                int place = i;
                Check.same("14: walk(" + k + ", " + i + ")", due[k][i], () -> graph.walk(number, place));
            }
            for (int i : new int[] {LOW, -2, 2, 40, HIGH}) {
                Check.same("14: walk(" + k + ", " + i + ")", Check.INDEX, () -> graph.walk(number, i));
            }
        }
        for (int k : new int[] {LOW, -1, 2, 50, HIGH}) {
            Check.same("14: walk(" + k + ", 0)", Check.ELEMENT, () -> graph.walk(k, 0));
            Check.same("14: walk(" + k + ", 99)", Check.ELEMENT, () -> graph.walk(k, 99));
        }
    }

    private static void spelled() {
        ReadGraph graph = eight();
        Check.same("15: not found yet", Check.ELEMENT, () -> graph.spelled(0, 0));
        graph.walks();
        checkSpelled(graph, 0, "0231220231");
        checkSpelled(graph, 1, "0231330231");
        for (int k : new int[] {LOW, -1, 2, 50, HIGH}) {
            Check.same("15: spelled(" + k + ", 0)", Check.ELEMENT, () -> graph.spelled(k, 0));
            Check.same("15: spelled(" + k + ", 999)", Check.ELEMENT, () -> graph.spelled(k, 999));
        }
        // Reads of other lengths, and overlaps of more than one letter.
        ReadGraph uneven = of("20310", "10123320", "100020");
        uneven.build(2);
        uneven.walks();
        checkSpelled(uneven, 0, "20310123320310");
        checkSpelled(uneven, 1, "203100020310");
    }

    private static void checkSpelled(ReadGraph graph, int k, String text) {
        Check.same("15: spelled(" + k + ", -1)", text.length(), () -> graph.spelled(k, -1));
        for (int i = 0; i < text.length(); i++) {
            int place = i;
            Check.same("15: spelled(" + k + ", " + i + ")", text.charAt(i) - '0', () -> graph.spelled(k, place));
        }
        for (int i : new int[] {LOW, -2, text.length(), 999, HIGH}) {
            Check.same("15: spelled(" + k + ", " + i + ")", Check.INDEX, () -> graph.spelled(k, i));
        }
    }
}
