/** "What it is" and "Terms", a test for each sentence with a bound: just inside it and just outside it. */
public final class TermsTest {
    public static void main(String[] args) {
        usedForManyCalls();
        threeToTwelveLetters();
        lettersZeroToThree();
        atMostNineReads();
        containedInALongerRead();
        containedOneBehindTheOther();
        containedInALowerNumber();
        containedReadsHaveNoPart();
        greatestOverlap();
        overlapAtLeastLeast();
        overlapBelowBothLengths();
        noOverlap();
        edgeWhenOverlapIsNotZero();
        hangIsWhatIsLeft();
        edgeSaidByOthers();
        saidByAllThatThereWere();
        edgesInOrder();
        wayOfOneEdgeOrMore();
        edgesMoreThanOnce();
        strongHasAnEdge();
        strongFromEachToEach();
        cycleHasAsManyEdgesAsNodes();
        singleEdgesAreSafe();
        unsafeAtOneNode();
        unsafeFromFirstToLastNode();
        safeBesideOneEdge();
        unsafeByAWayOfOneEdge();
        safeWhenNoWayLeadsBack();
        safeWhenTheWayBeginsAsTheWalkGoesOn();
        safeWhenTheWayEndsAsTheWalkCame();
        greatestWhenNoEdgeCanBePut();
        walksInOrder();
        tooManyWhenNotStrong();
        tooManyWhenACycle();
        longestWalk();
        fiftyWalks();
        fiftyOneWalks();
        spelledLetters();
        Check.end();
    }

    private static void usedForManyCalls() {
        Check.sentence("What it is: An object is used for at most 512 calls after it has been made");
        ReadGraph graph = new ReadGraph();
        for (int round = 1; round <= 64; round++) {
            String at = "round " + round + " of 64 with eight calls: ";
            graph.clear();
            Check.same(at + "read", 0, () -> graph.read(Graphs.packed("0231"), 4));
            Check.same(at + "read", 1, () -> graph.read(Graphs.packed("1220"), 4));
            Check.same(at + "read", 2, () -> graph.read(Graphs.packed("1330"), 4));
            Check.same(at + "build(1)", 4, () -> graph.build(1));
            Check.same(at + "walks()", 2, () -> graph.walks());
            Check.same(at + "walk(1, 1)", 3, () -> graph.walk(1, 1));
            Check.same(at + "spelled(0, 9)", 1, () -> graph.spelled(0, 9));
        }
    }

    private static void threeToTwelveLetters() {
        Check.sentence("Terms: A READ is 3 to 12 LETTERS");
        ReadGraph graph = new ReadGraph();
        Check.same("2 letters", Check.ARGUMENT, () -> graph.read(6, 2));
        Check.same("3 letters", 0, () -> graph.read(Graphs.packed("012"), 3));
        Check.same("12 letters", 1, () -> graph.read(Graphs.packed("321032103210"), 12));
        Check.same("13 letters", Check.ARGUMENT, () -> graph.read(6, 13));
        Check.letters(graph, 0, "012");
        Check.letters(graph, 1, "321032103210");
    }

    // No bits of an int stand for a letter below 0 or above 3, so there is nothing outside to try.
    private static void lettersZeroToThree() {
        Check.sentence("Terms: LETTERS 0 .. 3");
        Check.letters(Graphs.of("000000000000"), 0, "000000000000");
        Check.letters(Graphs.of("333333333333"), 0, "333333333333");
        Check.letters(Graphs.of("300000000003"), 0, "300000000003");
        Check.letters(Graphs.of("033"), 0, "033");
        Check.letters(Graphs.of("330"), 0, "330");
    }

    private static void atMostNineReads() {
        Check.sentence("Terms: at most 9 reads, numbered 0, 1, ..");
        ReadGraph graph = new ReadGraph();
        for (int number = 0; number < 9; number++) {
            int due = number;
            Check.same("read " + due, due, () -> graph.read(due, 3 + due));
        }
        Check.same("a tenth read", Check.STATE, () -> graph.read(9, 3));
        for (int number = 0; number < 9; number++) {
            int read = number;
            Check.same("letters of read " + read, 3 + read, () -> graph.letter(read, -1));
        }
        Check.same("letters of read 9", Check.ARGUMENT, () -> graph.letter(9, -1));
    }

    private static void contained(String inner, String longer, boolean due) {
        Check.same(inner + " before " + longer, due, () -> Graphs.of(inner, longer).contained(0));
        Check.same(inner + " behind " + longer, due, () -> Graphs.of(longer, inner).contained(1));
    }

    private static void containedInALongerRead() {
        Check.sentence("Terms: A read is CONTAINED when its letters stand in a longer read");
        contained("012", "0123", true);
        contained("123", "0123", true);
        contained("012", "012333333333", true);
        contained("012", "333333333012", true);
        contained("012", "333330123333", true);
        contained("01233333333", "012333333333", true);
        contained("33333333301", "333333333301", true);
        contained("000", "0000", true);
        // Of the same length, or shorter: not longer.
        contained("013", "012", false);
        contained("312", "012", false);
        contained("0123", "012", false);
        contained("0000", "000", false);
        ReadGraph three = Graphs.of("012", "0123", "01233");
        Check.same("in a read that is contained itself", true, () -> three.contained(0));
        Check.same("in the longest one", true, () -> three.contained(1));
        Check.same("the longest one", false, () -> three.contained(2));
    }

    private static void containedOneBehindTheOther() {
        Check.sentence("Terms: its letters stand, one behind the other, in a longer read");
        contained("013", "0123", false);
        contained("023", "0123", false);
        contained("321", "0123", false);
        // Not round the end of the longer one.
        contained("301", "0123", false);
        contained("230", "0123", false);
        // All but its last or its first letter.
        contained("231", "0123", false);
        contained("301", "0122", false);
        contained("01233333331", "012333333333", false);
    }

    private static void containedInALowerNumber() {
        Check.sentence("Terms: or are those of a read with a lower number");
        ReadGraph graph = new ReadGraph();
        for (int number = 0; number < 9; number++) {
            graph.read(Graphs.packed("0123"), 4);
        }
        Check.same("contained(0)", false, () -> graph.contained(0));
        for (int number = 1; number < 9; number++) {
            int read = number;
            Check.same("contained(" + read + ")", true, () -> graph.contained(read));
        }
        ReadGraph apart = Graphs.of("012", "111", "222", "333", "013", "023", "100", "200", "012");
        Check.same("the first of two alike", false, () -> apart.contained(0));
        Check.same("the last of two alike", true, () -> apart.contained(8));
        Check.same("one between them", false, () -> apart.contained(4));
    }

    private static void containedReadsHaveNoPart() {
        Check.sentence("Terms: such reads have no part in what follows; the others are NODES");
        // 0 to 2 is said by way of read 1 alone, until read 3 contains that one.
        ReadGraph graph = Graphs.of("0012", "0122", "1223");
        Check.same("build(1)", 2, () -> graph.build(1));
        Check.same("all()", 3, () -> graph.all());
        Check.same("a read that contains read 1", 3, () -> graph.read(Graphs.packed("101222"), 6));
        Check.same("build(1) without read 1", 1, () -> graph.build(1));
        Check.same("all() without read 1", 1, () -> graph.all());
        Check.edges(graph, new int[] {0, 2});
        Check.same("overlap(0, 1, 1)", Check.ARGUMENT, () -> graph.overlap(0, 1, 1));
        Check.same("overlap(1, 2, 1)", Check.ARGUMENT, () -> graph.overlap(1, 2, 1));
        Check.same("way(0, 1)", Check.ARGUMENT, () -> graph.way(0, 1));
        Check.same("way(1, 2)", Check.ARGUMENT, () -> graph.way(1, 2));
        ReadGraph ring = Graphs.built(3, "0123", "123", "1230", "2301", "3012", "0123");
        Check.same("a ring and two contained reads are a cycle", 1, () -> ring.kind());
        Check.edges(ring, new int[][] {{0, 2}, {2, 3}, {3, 4}, {4, 0}});
        ReadGraph first = Graphs.built(3, "123", "0123", "1230", "2301", "3012");
        Check.same("a ring, read 0 being contained", 1, () -> first.kind());
        Check.edges(first, new int[][] {{1, 2}, {2, 3}, {3, 4}, {4, 1}});
        ReadGraph last = Graphs.built(3, "0123", "1230", "2301", "3012", "000", "0000", "111", "1111", "123");
        Check.same("read 8 being contained", true, () -> last.contained(8));
        Check.same("way(8, 0)", Check.ARGUMENT, () -> last.way(8, 0));
    }

    private static void greatestOverlap() {
        Check.sentence("Terms: The OVERLAP of node i with another node j is the greatest n");
        ReadGraph graph = Graphs.of("0101012", "1201010");
        Check.same("5 of 1, 3 and 5", 5, () -> graph.overlap(1, 0, 1));
        Check.same("the other way round", 2, () -> graph.overlap(0, 1, 1));
        graph.build(1);
        Check.same("the overlap of edge 0", 2, () -> graph.edge(0, 2));
        Check.same("the overlap of edge 1", 5, () -> graph.edge(1, 2));
    }

    private static void overlapAtLeastLeast() {
        Check.sentence("Terms: at least LEAST");
        ReadGraph graph = Graphs.of("0101012", "1201010");
        Check.same("one above least", 5, () -> graph.overlap(1, 0, 4));
        Check.same("just least", 5, () -> graph.overlap(1, 0, 5));
        Check.same("one below least", 0, () -> graph.overlap(1, 0, 6));
        Check.same("build(2)", 2, () -> graph.build(2));
        Check.same("build(3)", 1, () -> graph.build(3));
        Check.same("build(5)", 1, () -> graph.build(5));
        Check.same("build(6)", 0, () -> graph.build(6));
        ReadGraph ring = Graphs.ring();
        Check.same("a ring by overlaps of 3, least 3", 1, () -> ring.kind());
        Check.same("least 4", 0, () -> ring.build(4));
    }

    // An n of the length of one of both is never met: that read would be contained in the other one, or
    // both would be alike. So the test outside the bound is that least is that length.
    private static void overlapBelowBothLengths() {
        Check.sentence("Terms: below the lengths of both");
        ReadGraph alike = Graphs.of("0000", "0001");
        Check.same("3 of 4 letters", 3, () -> alike.overlap(0, 1, 1));
        Check.same("3 of 4 letters, least 3", 3, () -> alike.overlap(0, 1, 3));
        Check.same("3 of 4 letters, least 4", 0, () -> alike.overlap(0, 1, 4));
        ReadGraph longest = Graphs.of("000000000001", "000000000010");
        Check.same("11 of 12 letters", 11, () -> longest.overlap(0, 1, 1));
        Check.same("11 of 12 letters, least 11", 11, () -> longest.overlap(0, 1, 11));
        Check.same("11 of 12 letters, least 12", 0, () -> longest.overlap(0, 1, 12));
        ReadGraph shorterFirst = Graphs.of("012", "120000000000");
        Check.same("2 of 3 and 12 letters", 2, () -> shorterFirst.overlap(0, 1, 2));
        Check.same("2 of 3 and 12 letters, least 3", 0, () -> shorterFirst.overlap(0, 1, 3));
        ReadGraph shorterLast = Graphs.of("000000000012", "120");
        Check.same("2 of 12 and 3 letters", 2, () -> shorterLast.overlap(0, 1, 2));
        Check.same("2 of 12 and 3 letters, least 3", 0, () -> shorterLast.overlap(0, 1, 3));
    }

    private static void noOverlap() {
        Check.sentence("Terms: 0 when there is none");
        ReadGraph graph = Graphs.of("0123", "0211", "2220");
        Check.same("no letter", 0, () -> graph.overlap(0, 1, 1));
        Check.same("the last letter is the first one", 1, () -> graph.overlap(2, 1, 1));
        Check.same("the first letters are alike", 0, () -> graph.overlap(1, 0, 1));
    }

    private static void edgeWhenOverlapIsNotZero() {
        Check.sentence("Terms: When it is not 0, there is an EDGE from i to j");
        ReadGraph graph = Graphs.of("0123", "0211", "2220");
        Check.same("build(1)", 2, () -> graph.build(1));
        Check.edges(graph, new int[][] {{2, 0}, {2, 1}});
        Check.same("build(2)", 0, () -> graph.build(2));
        Check.edges(graph);
    }

    private static void hangIsWhatIsLeft() {
        Check.sentence("Terms: whose HANG is the length of j less n");
        ReadGraph least = Graphs.built(1, "000000000001", "000000000012");
        Check.same("overlap 11", 11, () -> least.edge(0, 2));
        Check.same("hang 1", 1, () -> least.edge(0, 3));
        ReadGraph most = Graphs.built(1, "002", "200000000001");
        Check.same("overlap 1", 1, () -> most.edge(0, 2));
        Check.same("hang 11", 11, () -> most.edge(0, 3));
        ReadGraph shorter = Graphs.built(1, "000000000012", "120");
        Check.same("overlap 2", 2, () -> shorter.edge(0, 2));
        Check.same("hang 1 of 3 letters", 1, () -> shorter.edge(0, 3));
    }

    // "Both other than it" is so by itself, as no edge leads from a node to that node. A sum below the hang
    // is never met: where i overlaps j and j overlaps k, i overlaps k at least as far as both tell.
    private static void edgeSaidByOthers() {
        Check.sentence("Terms: An edge from i to k is SAID by others when the hangs have the sum of its hang");
        ReadGraph said = Graphs.built(1, "012", "123", "233");
        Check.same("1 and 1 are 2", 3, () -> said.all());
        Check.edges(said, new int[][] {{0, 1}, {1, 2}});
        ReadGraph unsaid = Graphs.built(1, "102", "220", "200");
        Check.same("2 and 1 are not 2", 3, () -> unsaid.all());
        Check.edges(unsaid, new int[][] {{0, 1}, {0, 2}, {1, 2}});
        Check.same("without 0 to 2 there is none to be said", 2, () -> said.build(2));
        Check.same("all of these", 2, () -> said.all());
    }

    private static void saidByAllThatThereWere() {
        Check.sentence("Terms: All edges that are said by others (of all that there were) are taken away");
        // First to last is said only by pairs of which one goes too: in whatever order they are looked at.
        ReadGraph line = Graphs.line();
        Check.same("all()", 6, () -> line.all());
        Check.edges(line, new int[][] {{0, 1}, {1, 2}, {2, 3}});
        ReadGraph firstLate = Graphs.built(1, "0112", "0011", "1122", "1223");
        Check.same("all() with 1 first", 6, () -> firstLate.all());
        Check.edges(firstLate, new int[][] {{0, 2}, {1, 0}, {2, 3}});
        ReadGraph lastEarly = Graphs.built(1, "0011", "1223", "0112", "1122");
        Check.same("all() with 1 last", 6, () -> lastEarly.all());
        Check.edges(lastEarly, new int[][] {{0, 2}, {2, 3}, {3, 1}});
    }

    private static void edgesInOrder() {
        Check.sentence("Terms: Those left are numbered 0, 1, .. by their i, then by their j");
        Check.edges(Graphs.triangle(), new int[][] {{0, 1}, {0, 2}, {1, 0}, {1, 2}, {2, 0}, {2, 1}});
        ReadGraph dense = Graphs.dense();
        for (int k = 0; k < 72; k++) {
            int number = k;
            int from = k / 8;
            int to = k % 8 < from ? k % 8 : k % 8 + 1;
            Check.same("edge(" + k + ", 0) of 72", from, () -> dense.edge(number, 0));
            Check.same("edge(" + k + ", 1) of 72", to, () -> dense.edge(number, 1));
        }
    }

    private static void wayOfOneEdgeOrMore() {
        Check.sentence("Terms: A WAY from a node to a node is one edge or more");
        ReadGraph graph = Graphs.lineOfNine();
        for (int from = 0; from < 9; from++) {
            for (int to = 0; to < 9; to++) {
                int one = from;
                int two = to;
                Check.same("way(" + from + ", " + to + ")", from < to, () -> graph.way(one, two));
            }
        }
        Check.same("the shortest ring, to itself", true, () -> Graphs.built(1, "0231", "1220").way(0, 0));
        Check.same("the longest ring, to itself", true, () -> Graphs.ringOfNine().way(4, 4));
        Check.same("the longest ring, to the one before", true, () -> Graphs.ringOfNine().way(4, 3));
    }

    private static void edgesMoreThanOnce() {
        Check.sentence("Terms: edges may come in it more than once");
        ReadGraph smallest = Graphs.built(1, "0231", "1220");
        Check.same("each edge four times", true, () -> smallest.safe(0x0001000100010001L, 8));
        Check.same("each edge twice", true, () -> Graphs.ring().safe(0x0001020300010203L, 8));
        ReadGraph graph = Graphs.shortened();
        Graphs.found(graph);
        Check.same("the first edge of a greatest walk", 0, () -> graph.walk(0, 0));
        Check.same("comes again", 0, () -> graph.walk(0, 8));
    }

    private static void strongHasAnEdge() {
        Check.sentence("Terms: The graph is STRONG when it has an edge");
        Check.same("no read", 0, () -> Graphs.built(1).kind());
        Check.same("one read, although it overlaps itself", 0, () -> Graphs.built(1, "0110").kind());
        Check.same("two reads without an edge", 0, () -> Graphs.built(1, "0110", "2332").kind());
        Check.same("the same read twice", 0, () -> Graphs.built(1, "0110", "0110").kind());
        Check.same("two reads with an edge each", 1, () -> Graphs.built(1, "0231", "1220").kind());
    }

    private static void strongFromEachToEach() {
        Check.sentence("Terms: and there is a way from each node to each node (also to itself)");
        Check.same("two reads with one edge", 0, () -> Graphs.built(1, "0231", "1223").kind());
        Check.same("a line", 0, () -> Graphs.lineOfNine().kind());
        Check.same("two rings and an end", 0, () -> Graphs.built(1, "0231", "1220", "1330", "1232").kind());
        Check.same("two rings and a beginning", 0, () -> Graphs.built(1, "0231", "1220", "1330", "3220").kind());
        Check.same("an end with the lowest number", 0, () -> Graphs.built(1, "1232", "0231", "1220", "1330").kind());
        Check.same("a ring and a node apart", 0, () -> Graphs.built(3, "0123", "1230", "2301", "3012", "111").kind());
        Check.same("two rings apart", 0, () -> Graphs.built(1, "0111", "1000", "2333", "3222").kind());
        Check.same("the longest ring", 1, () -> Graphs.ringOfNine().kind());
    }

    private static void cycleHasAsManyEdgesAsNodes() {
        Check.sentence("Terms: it is a CYCLE when it is strong and has as many edges as nodes");
        Check.same("2 edges, 2 nodes", 1, () -> Graphs.built(1, "0231", "1220").kind());
        Check.same("9 edges, 9 nodes", 1, () -> Graphs.ringOfNine().kind());
        Check.same("10 edges, 9 nodes", 2, () -> Graphs.shortened().kind());
        Check.same("4 edges, 3 nodes", 2, () -> Graphs.twoRings().kind());
        Check.same("72 edges, 9 nodes", 2, () -> Graphs.dense().kind());
        ReadGraph tail = Graphs.of("0123", "3220", "3112");
        Check.same("3 edges, 3 nodes", 3, () -> tail.build(1));
        Check.same("and not strong", 0, () -> tail.kind());
        ReadGraph withContained = Graphs.built(1, "0231", "1220", "1330", "023");
        Check.same("4 edges, 4 reads, but 3 nodes", 2, () -> withContained.kind());
    }

    private static void singleEdgesAreSafe() {
        Check.sentence("Terms: (So each single edge is safe.)");
        ReadGraph dense = Graphs.dense();
        for (int e = 0; e < 72; e++) {
            int one = e;
            Check.same("safe(" + e + ", 1)", true, () -> dense.safe(one, 1));
        }
    }

    private static void unsafeAtOneNode() {
        Check.sentence("Terms: SAFE: for no numbers p and q with 1 <= p <= q, p being q");
        ReadGraph graph = Graphs.twoRings();
        Check.same("round the first ring", true, () -> graph.safe(0x0002, 2));
        Check.same("round the second ring", true, () -> graph.safe(0x0103, 2));
        Check.same("on into the same ring", false, () -> graph.safe(0x0200, 2));
        Check.same("on into the other ring", false, () -> graph.safe(0x0201, 2));
        Check.same("at the first of two inner nodes", false, () -> graph.safe(0x020002, 3));
        Check.same("at the last of two inner nodes", false, () -> graph.safe(0x000200, 3));
    }

    private static void unsafeFromFirstToLastNode() {
        Check.sentence("Terms: SAFE: for no numbers p and q with 1 <= p <= q < k, p being 1 and q k - 1");
        ReadGraph graph = Graphs.twoWaysBack();
        // From 7 all along the line and back to 7: two edges lead to v1, and two lead from v7.
        Check.same("8 edges", false, () -> graph.safe(0x0800010203040506L, 8));
        Check.same("the first 7 of them", true, () -> graph.safe(0x08000102030405L, 7));
        Check.same("the last 7 of them", true, () -> graph.safe(0x00010203040506L, 7));
        // Two edges lead to v0, or two lead from vk: these are no inner nodes.
        Check.same("from 0 to 0", true, () -> graph.safe(0x0001020304050608L, 8));
        Check.same("from 6 to 6", true, () -> graph.safe(0x0608000102030405L, 8));
        // Two edges lead from v1, and two lead to v3: p would be greater than q.
        Check.same("from 5 to 5", true, () -> graph.safe(0x0506080001020304L, 8));
    }

    private static void safeBesideOneEdge() {
        Check.sentence("Terms: SAFE: for no numbers p and q with p <= q, p being q + 1");
        // Edge 1 leads from 0 to 3, and so do 0 and 2 beside it.
        ReadGraph graph = Graphs.built(1, "1220", "000", "1330", "001");
        Check.edges(graph, new int[][] {{0, 1}, {0, 3}, {1, 3}, {2, 1}, {2, 3}, {3, 0}, {3, 2}});
        Check.same("5 and 1", true, () -> graph.safe(0x0501, 2));
        Check.same("5, 0 and 2", true, () -> graph.safe(0x050002, 3));
        Check.same("1 and 5", false, () -> graph.safe(0x0105, 2));
    }

    private static void unsafeByAWayOfOneEdge() {
        Check.sentence("Terms: SAFE: there is a way from vq to vp, which may be one edge");
        // Edges 0: 0 to 1, 1: 1 to 0, 2: 1 to 2, 3: 2 to 0.
        ReadGraph graph = Graphs.built(1, "0221", "1330", "0220");
        Check.edges(graph, new int[][] {{0, 1}, {1, 0}, {1, 2}, {2, 0}});
        Check.same("from 2 to 2, beside 1 to 0", false, () -> graph.safe(0x030002, 3));
        Check.same("the first two of these", true, () -> graph.safe(0x0300, 2));
        Check.same("the last two of these", true, () -> graph.safe(0x0002, 2));
    }

    private static void safeWhenNoWayLeadsBack() {
        Check.sentence("Terms: SAFE: there is a way from vq to vp, not where none leads back");
        Check.same("a line of 8 edges", true, () -> Graphs.lineOfNine().safe(0x0001020304050607L, 8));
        // Two edges lead to node 2, and two from it, but none of these comes back.
        ReadGraph cross = Graphs.built(1, "2221", "2331", "1003", "3220", "3330");
        Check.edges(cross, new int[][] {{0, 2}, {1, 2}, {2, 3}, {2, 4}});
        Check.same("straight on", true, () -> cross.safe(0x0002, 2));
        Check.same("over", true, () -> cross.safe(0x0103, 2));
        ReadGraph ended = Graphs.built(1, "0231", "1220", "1330", "1232");
        Check.edges(ended, new int[][] {{0, 1}, {0, 2}, {0, 3}, {1, 0}, {2, 0}});
        Check.same("from a ring to the end, beside a way back", false, () -> ended.safe(0x0302, 2));
    }

    private static void safeWhenTheWayBeginsAsTheWalkGoesOn() {
        Check.sentence("Terms: SAFE: whose first edge is other than e(q + 1)");
        // Two edges lead to node 0, but only one leads from each node.
        ReadGraph graph = Graphs.built(1, "0231", "1220", "3220");
        Check.edges(graph, new int[][] {{0, 1}, {1, 0}, {2, 0}});
        Check.same("in and twice round", true, () -> graph.safe(0x0200010001L, 5));
        Check.same("round, as if from the beginning", true, () -> graph.safe(0x01000100L, 4));
    }

    private static void safeWhenTheWayEndsAsTheWalkCame() {
        Check.sentence("Terms: SAFE: and whose last edge is other than ep");
        // Two edges lead from node 1, but only one leads to each node.
        ReadGraph graph = Graphs.built(1, "0123", "3220", "0331");
        Check.edges(graph, new int[][] {{0, 1}, {1, 0}, {1, 2}});
        Check.same("twice round and on", true, () -> graph.safe(0x0001000100L, 5));
        Check.same("round, on and out", true, () -> graph.safe(0x00010002L, 4));
    }

    private static void greatestWhenNoEdgeCanBePut() {
        Check.sentence("Terms: GREATEST when no edge can be put before it or behind it");
        // Alone, edges 0 and 1 could go on, and edges 2 and 3 could have begun before.
        ReadGraph graph = Graphs.twoRings();
        Check.same("two rings", 2, () -> graph.walks());
        Check.walks(graph, new int[][] {{0, 2}, {1, 3}});
        ReadGraph triangle = Graphs.triangle();
        Check.same("single edges", 6, () -> triangle.walks());
        Check.walks(triangle, new int[][] {{0}, {1}, {2}, {3}, {4}, {5}});
        ReadGraph back = Graphs.twoWaysBack();
        Check.same("two ways back", 2, () -> back.walks());
        Check.walks(back, new int[][] {
            {0, 1, 2, 3, 4, 5, 6, 8, 0, 1, 2, 3, 4, 5}, {0, 1, 2, 3, 4, 5, 7, 9, 0, 1, 2, 3, 4, 5}});
    }

    // One that is the beginning of another one is never met: an edge could be put behind it.
    private static void walksInOrder() {
        Check.sentence("Terms: Greatest walks are numbered by their first edges, then by their second ones");
        ReadGraph graph = Graphs.built(1, "1220", "000", "1330", "001");
        Check.same("walks()", 4, () -> graph.walks());
        Check.walks(graph, new int[][] {{5, 0, 2}, {5, 1}, {6, 3, 2}, {6, 4}});
        ReadGraph other = Graphs.built(1, "3102", "303", "0323", "1010", "221");
        Check.same("walks() of another one", 3, () -> other.walks());
        Check.walks(other, new int[][] {{3, 0, 6, 5}, {4, 1, 0, 6, 5}, {4, 2}});
    }

    private static void tooMany(String what, ReadGraph graph) {
        int edges = graph.all();
        Check.same("walks() of " + what, Check.STATE, () -> graph.walks());
        Check.noWalks(graph);
        Check.same("all() of " + what, edges, () -> graph.all());
    }

    private static void tooManyWhenNotStrong() {
        Check.sentence("Terms: There are TOO MANY, when the graph is not strong");
        tooMany("a line", Graphs.lineOfNine());
        tooMany("two rings and an end", Graphs.built(1, "0231", "1220", "1330", "1232"));
        tooMany("two rings and a beginning", Graphs.built(1, "0231", "1220", "1330", "3220"));
        tooMany("one read", Graphs.built(1, "0231"));
        tooMany("no read", Graphs.built(1));
        tooMany("reads without a graph", Graphs.of("0231", "1220", "1330"));
        Check.same("walks() of two rings alone", 2, () -> Graphs.twoRings().walks());
    }

    private static void tooManyWhenACycle() {
        Check.sentence("Terms: TOO MANY, when the graph is .. a cycle");
        tooMany("the shortest ring", Graphs.built(1, "0231", "1220"));
        tooMany("the longest ring", Graphs.ringOfNine());
        Check.same("walks() with one edge more", 2, () -> Graphs.shortened().walks());
    }

    // More than 40 edges are never met in a graph that is strong and no cycle. There, a walk is safe only if
    // no inner node with two edges to it comes before, or is, one with two edges from it. So its inner nodes
    // are a row with one edge to each, then a row with one edge from each. No node comes twice in a row (else
    // all would be a cycle), and at most 8 of 9 nodes are such: 16 inner nodes, 17 edges. For all 17 there
    // would be one node with two edges to it and one with two edges from it, both leading from the latter to
    // the former, which there are not. So the walk of 16 edges here is the longest that any run can find.
    private static void longestWalk() {
        Check.sentence("Terms: TOO MANY, when .. there is a safe walk of more than 40 edges");
        ReadGraph graph = Graphs.shortened();
        Check.same("walks() with one of 16 edges", 2, () -> graph.walks());
        Check.walks(graph, new int[][] {
            {0, 1, 2, 3, 4, 5, 6, 7, 0, 1, 2, 3, 4, 5, 6}, {0, 1, 2, 3, 4, 5, 6, 8, 9, 0, 1, 2, 3, 4, 5, 6}});
    }

    private static void fiftyWalks() {
        Check.sentence("Terms: TOO MANY, when .. there are more than 50 greatest ones: not with 50");
        ReadGraph graph = Graphs.fifty();
        Check.same("walks()", 50, () -> graph.walks());
        Check.same("the first of 50", true, () -> graph.walk(0, -1) >= 1);
        Check.same("the last of 50", true, () -> graph.walk(49, -1) >= 1);
        Check.same("what the last of 50 spells", true, () -> graph.spelled(49, -1) > 5);
        Check.same("walk 50", Check.ELEMENT, () -> graph.walk(50, -1));
        for (int k = 1; k < 50; k++) {
            int number = k;
            Check.same("first edges in order, " + k, true,
                    () -> graph.walk(number - 1, 0) <= graph.walk(number, 0));
        }
    }

    private static void fiftyOneWalks() {
        Check.sentence("Terms: TOO MANY, when .. there are more than 50 greatest ones: with 51");
        ReadGraph graph = Graphs.fiftyOne();
        Check.same("it is strong", 2, () -> graph.kind());
        tooMany("a graph with 51", graph);
        tooMany("a graph with 72", Graphs.dense());
    }

    private static void spelledLetters() {
        Check.sentence("Terms: What a walk SPELLS are the letters of v0, and for each edge the last letters");
        ReadGraph rings = Graphs.twoRings();
        Graphs.found(rings);
        Check.spelled(rings, 0, "0231220231");
        Check.spelled(rings, 1, "0231330231");
        ReadGraph single = Graphs.triangle();
        Graphs.found(single);
        Check.spelled(single, 0, "01020");
        // The least and the greatest hang: edge 0 hangs 1, edges 3 and 4 hang 11.
        ReadGraph uneven = Graphs.built(1, "022222222221", "222222222213", "330", "310");
        Check.same("hang of edge 0", 1, () -> uneven.edge(0, 3));
        Check.same("hang of edge 3", 11, () -> uneven.edge(3, 3));
        Graphs.found(uneven);
        Check.walks(uneven, new int[][] {{0, 1, 3, 0}, {0, 2, 4, 0}});
        Check.spelled(uneven, 0, "022222222221" + "3" + "30" + "22222222221" + "3");
        Check.spelled(uneven, 1, "022222222221" + "3" + "10" + "22222222221" + "3");
    }
}
