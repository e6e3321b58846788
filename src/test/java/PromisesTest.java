/** The promises one by one, a test for each sentence: ordinary inputs, its bounds on each side, wrong inputs. */
public final class PromisesTest {
    private static final int LOW = Check.LOW;
    private static final int HIGH = Check.HIGH;

    public static void main(String[] args) {
        newObjectHasNoReads();
        newObjectHasNoEdges();
        readAnswersItsNumber();
        readTakesTheLowestBits();
        readTakesTheFirstLetterFromTheHighest();
        readLeavesNoEdgesAndWalks();
        readRefusesLengths();
        readRefusesATenth();
        clearLeavesNothing();
        clearOfTheEmpty();
        clearOfTheFull();
        letterOfARead();
        letterTellsHowMany();
        letterRefusesReads();
        letterRefusesPlaces();
        containedTellsWhether();
        containedRefusesReads();
        overlapForSomeLeast();
        overlapNeedsNoGraph();
        overlapRefusesNoNodes();
        overlapRefusesTheSame();
        overlapRefusesLeast();
        buildTellsHowManyAreLeft();
        buildAgain();
        buildOfFewReads();
        buildLeavesNoWalks();
        buildRefusesLeast();
        allTellsHowManyThereWere();
        allWithoutAGraph();
        edgeTellsWhatIsAsked();
        edgeRefusesWhat();
        edgeRefusesNumbers();
        wayTellsWhether();
        wayRefusesNoNodes();
        kindIsZero();
        kindIsOne();
        kindIsTwo();
        safeTellsWhether();
        safeOfOneToEightEdges();
        safeTakesTheLowestBytes();
        safeRefusesNumbers();
        safeRefusesWhatIsNoWalk();
        walksTellsHowMany();
        walksRefusesTooMany();
        walkTellsEdges();
        walkRefusesNumbers();
        walkRefusesPlaces();
        spelledTellsLetters();
        spelledRefusesNumbers();
        spelledRefusesPlaces();
        Check.end();
    }

    private static ReadGraph nineOfFour() {
        return Graphs.of("0123", "1032", "2301", "3210", "0000", "1111", "2222", "3333", "0213");
    }

    private static void newObjectHasNoReads() {
        Check.sentence("1: No reads");
        ReadGraph graph = new ReadGraph();
        Check.same("letter(0, -1)", Check.ARGUMENT, () -> graph.letter(0, -1));
        Check.same("contained(0)", Check.ARGUMENT, () -> graph.contained(0));
        Check.same("overlap(0, 1, 1)", Check.ARGUMENT, () -> graph.overlap(0, 1, 1));
        Check.same("way(0, 0)", Check.ARGUMENT, () -> graph.way(0, 0));
        Check.same("read(0, 3)", 0, () -> graph.read(0, 3));
        Check.same("letter(1, -1)", Check.ARGUMENT, () -> graph.letter(1, -1));
    }

    private static void newObjectHasNoEdges() {
        Check.sentence("1: no edges");
        Check.noGraph(new ReadGraph());
        ReadGraph graph = new ReadGraph();
        Check.same("build(1)", 0, () -> graph.build(1));
        Check.noGraph(graph);
    }

    private static void readAnswersItsNumber() {
        Check.sentence("2: One more read: its number");
        ReadGraph graph = new ReadGraph();
        for (int number = 0; number < 9; number++) {
            int due = number;
            Check.same("read " + due, due, () -> graph.read(27, 4));
            Check.same("letters of read " + due, 4, () -> graph.letter(due, -1));
            Check.same("letters of the next one", Check.ARGUMENT, () -> graph.letter(due + 1, -1));
        }
    }

    private static void readTakesTheLowestBits() {
        Check.sentence("2: the lowest 2 n bits of letters");
        ReadGraph three = new ReadGraph();
        three.read(1 << 5, 3);
        three.read(1 << 6, 3);
        three.read(~0, 3);
        three.read(~63, 3);
        three.read(1, 3);
        Check.letters(three, 0, "200");
        Check.letters(three, 1, "000");
        Check.letters(three, 2, "333");
        Check.letters(three, 3, "000");
        Check.letters(three, 4, "001");
        ReadGraph twelve = new ReadGraph();
        twelve.read(1 << 23, 12);
        twelve.read(1 << 24, 12);
        twelve.read(~0, 12);
        twelve.read(LOW, 12);
        twelve.read(HIGH, 12);
        twelve.read(1, 12);
        Check.letters(twelve, 0, "200000000000");
        Check.letters(twelve, 1, "000000000000");
        Check.letters(twelve, 2, "333333333333");
        Check.letters(twelve, 3, "000000000000");
        Check.letters(twelve, 4, "333333333333");
        Check.letters(twelve, 5, "000000000001");
        Check.same("bits above make no other read", true, () -> twelve.contained(3));
    }

    private static void readTakesTheFirstLetterFromTheHighest() {
        Check.sentence("2: the first letter in the highest two of these");
        ReadGraph graph = new ReadGraph();
        graph.read(0b00_01_10_11, 4);
        graph.read(0b11_10_01, 3);
        graph.read(0b00_01_10_11_00_01_10_11_00_01_10_11, 12);
        Check.letters(graph, 0, "0123");
        Check.letters(graph, 1, "321");
        Check.letters(graph, 2, "012301230123");
    }

    private static void readLeavesNoEdgesAndWalks() {
        Check.sentence("2: There are no edges and walks any more");
        ReadGraph graph = Graphs.found(Graphs.twoRings());
        Check.same("a read more", 3, () -> graph.read(0, 3));
        Check.noGraph(graph);
        Check.same("way(0, 1)", false, () -> graph.way(0, 1));
        ReadGraph contained = Graphs.found(Graphs.twoRings());
        Check.same("a contained read more", 3, () -> contained.read(Graphs.packed("023"), 3));
        Check.noGraph(contained);
        Check.same("way(0, 1) with a contained read more", false, () -> contained.way(0, 1));
        Check.same("build(1) makes them again", 4, () -> contained.build(1));
        Check.same("and walks() finds them", 2, () -> contained.walks());
        Check.same("reads stay", 4, () -> contained.letter(2, -1));
    }

    private static void readRefusesLengths() {
        Check.sentence("2: IllegalArgumentException: n is not 3 .. 12");
        ReadGraph graph = new ReadGraph();
        for (int n : new int[] {LOW, LOW + 3, -3, -1, 0, 1, 2, 13, 14, 16, 19, 32 + 3, HIGH}) {
            Check.same("read(0, " + n + ")", Check.ARGUMENT, () -> graph.read(0, n));
        }
        Check.same("no read has come", Check.ARGUMENT, () -> graph.letter(0, -1));
        Check.same("read(0, 3)", 0, () -> graph.read(0, 3));
        Check.same("read(0, 2) after it", Check.ARGUMENT, () -> graph.read(0, 2));
        Check.same("read(0, 12)", 1, () -> graph.read(0, 12));
        Check.same("read(0, 13) after it", Check.ARGUMENT, () -> graph.read(0, 13));
        Check.same("only two have come", Check.ARGUMENT, () -> graph.letter(2, -1));
    }

    private static void readRefusesATenth() {
        Check.sentence("2: IllegalStateException: there are 9");
        ReadGraph graph = Graphs.of("0123", "1032", "2301", "3210", "0000", "1111", "2222", "3333");
        Check.same("a ninth", 8, () -> graph.read(Graphs.packed("0213"), 4));
        Check.same("a tenth", Check.STATE, () -> graph.read(Graphs.packed("0312"), 4));
        Check.same("again", Check.STATE, () -> graph.read(0, 12));
        Check.same("a tenth that is there already", Check.STATE, () -> graph.read(Graphs.packed("0123"), 4));
        // Both are due: the one that the document names first.
        Check.same("a tenth with 2 letters", Check.ARGUMENT, () -> graph.read(0, 2));
        Check.same("a tenth with 13 letters", Check.ARGUMENT, () -> graph.read(0, 13));
        Check.letters(graph, 8, "0213");
        Check.same("letter(9, -1)", Check.ARGUMENT, () -> graph.letter(9, -1));
    }

    private static void clearLeavesNothing() {
        Check.sentence("3: No reads, edges, walks");
        ReadGraph graph = Graphs.found(Graphs.twoRings());
        graph.clear();
        Check.same("letter(0, -1)", Check.ARGUMENT, () -> graph.letter(0, -1));
        Check.same("contained(0)", Check.ARGUMENT, () -> graph.contained(0));
        Check.same("overlap(0, 1, 1)", Check.ARGUMENT, () -> graph.overlap(0, 1, 1));
        Check.same("way(0, 0)", Check.ARGUMENT, () -> graph.way(0, 0));
        Check.noGraph(graph);
        Check.same("a read after clear", 0, () -> graph.read(Graphs.packed("2012"), 4));
        Check.letters(graph, 0, "2012");
        Check.same("one read only", Check.ARGUMENT, () -> graph.letter(1, -1));
        Check.same("it is a node", false, () -> graph.contained(0));
        Check.same("no edge comes back", 0, () -> graph.build(1));
    }

    private static void clearOfTheEmpty() {
        Check.sentence("3: No reads, edges, walks: nor were there any");
        ReadGraph graph = new ReadGraph();
        graph.clear();
        graph.clear();
        Check.noGraph(graph);
        Check.same("the first read", 0, () -> graph.read(0, 3));
    }

    private static void clearOfTheFull() {
        Check.sentence("3: No reads, edges, walks: there were nine reads, 72 edges, 50 walks");
        ReadGraph dense = Graphs.dense();
        dense.clear();
        Check.noGraph(dense);
        ReadGraph graph = Graphs.found(Graphs.fifty());
        graph.clear();
        Check.noGraph(graph);
        for (int number = 0; number < 9; number++) {
            int due = number;
            Check.same("read " + due + " after clear", due, () -> graph.read(due, 3));
        }
        Check.same("a tenth after clear", Check.STATE, () -> graph.read(0, 3));
    }

    private static void letterOfARead() {
        Check.sentence("4: Letter k of a read");
        ReadGraph graph = nineOfFour();
        Check.letters(graph, 0, "0123");
        Check.letters(graph, 3, "3210");
        Check.letters(graph, 8, "0213");
    }

    private static void letterTellsHowMany() {
        Check.sentence("4: k = -1: how many");
        ReadGraph graph = Graphs.of("012", "330123210112", "0123");
        Check.same("letter(0, -1)", 3, () -> graph.letter(0, -1));
        Check.same("letter(1, -1)", 12, () -> graph.letter(1, -1));
        Check.same("letter(2, -1)", 4, () -> graph.letter(2, -1));
    }

    private static void letterRefusesReads() {
        Check.sentence("4: IllegalArgumentException: no such read");
        ReadGraph graph = Graphs.of("012", "3301");
        for (int read : new int[] {LOW, -1, 2, 3, 8, 9, HIGH}) {
            Check.same("letter(" + read + ", 0)", Check.ARGUMENT, () -> graph.letter(read, 0));
            Check.same("letter(" + read + ", -1)", Check.ARGUMENT, () -> graph.letter(read, -1));
            // Both are due: the one that the document names first.
            Check.same("letter(" + read + ", -2)", Check.ARGUMENT, () -> graph.letter(read, -2));
            Check.same("letter(" + read + ", 99)", Check.ARGUMENT, () -> graph.letter(read, 99));
        }
        ReadGraph full = nineOfFour();
        Check.same("letter(-1, 0) of nine", Check.ARGUMENT, () -> full.letter(-1, 0));
        Check.same("letter(8, 0) of nine", 0, () -> full.letter(8, 0));
        Check.same("letter(9, 0) of nine", Check.ARGUMENT, () -> full.letter(9, 0));
    }

    private static void letterRefusesPlaces() {
        Check.sentence("4: IndexOutOfBoundsException: no such letter");
        ReadGraph graph = Graphs.of("012", "330123210112");
        for (int k : new int[] {LOW, -3, -2, 3, 4, 11, 16, HIGH}) {
            Check.same("letter(0, " + k + ")", Check.INDEX, () -> graph.letter(0, k));
        }
        Check.same("letter(0, 2)", 2, () -> graph.letter(0, 2));
        for (int k : new int[] {LOW, -2, 12, 13, HIGH}) {
            Check.same("letter(1, " + k + ")", Check.INDEX, () -> graph.letter(1, k));
        }
        Check.same("letter(1, 11)", 2, () -> graph.letter(1, 11));
    }

    private static void containedTellsWhether() {
        Check.sentence("5: Whether a read is contained");
        ReadGraph graph = Graphs.of("123", "01230", "0123", "01230", "1230", "013", "0000", "000");
        boolean[] due = {true, false, true, true, true, false, false, true};
        for (int read = 0; read < due.length; read++) {
            int number = read;
            Check.same("contained(" + read + ")", due[read], () -> graph.contained(number));
        }
        graph.read(Graphs.packed("3012303"), 7);
        Check.same("a longer read may come later", true, () -> graph.contained(1));
        Check.same("the ninth is not contained", false, () -> graph.contained(8));
    }

    private static void containedRefusesReads() {
        Check.sentence("5: IllegalArgumentException: there is none");
        ReadGraph graph = Graphs.of("123", "0123");
        for (int read : new int[] {LOW, -1, 2, 8, 9, HIGH}) {
            Check.same("contained(" + read + ")", Check.ARGUMENT, () -> graph.contained(read));
        }
        Check.same("contained(0)", true, () -> graph.contained(0));
        Check.same("contained(1)", false, () -> graph.contained(1));
        ReadGraph full = nineOfFour();
        Check.same("contained(-1) of nine", Check.ARGUMENT, () -> full.contained(-1));
        Check.same("contained(8) of nine", false, () -> full.contained(8));
        Check.same("contained(9) of nine", Check.ARGUMENT, () -> full.contained(9));
    }

    private static void overlapForSomeLeast() {
        Check.sentence("6: The overlap of a node with another one, for some least");
        ReadGraph graph = Graphs.of("0101012", "1201010", "222");
        for (int least = 1; least <= 12; least++) {
            int some = least;
            Check.same("overlap(1, 0, " + least + ")", least <= 5 ? 5 : 0, () -> graph.overlap(1, 0, some));
            Check.same("overlap(0, 1, " + least + ")", least <= 2 ? 2 : 0, () -> graph.overlap(0, 1, some));
            Check.same("overlap(0, 2, " + least + ")", least <= 1 ? 1 : 0, () -> graph.overlap(0, 2, some));
            Check.same("overlap(2, 0, " + least + ")", 0, () -> graph.overlap(2, 0, some));
        }
        ReadGraph full = nineOfFour();
        Check.same("overlap(0, 8, 1)", 0, () -> full.overlap(0, 8, 1));
        Check.same("overlap(8, 7, 1)", 1, () -> full.overlap(8, 7, 1));
        Check.same("overlap(4, 0, 1)", 1, () -> full.overlap(4, 0, 1));
    }

    private static void overlapNeedsNoGraph() {
        Check.sentence("6: The overlap for some least: not that of the graph");
        ReadGraph graph = Graphs.ring();
        Check.same("overlap(0, 1, 4)", 0, () -> graph.overlap(0, 1, 4));
        Check.same("overlap(0, 2, 2)", 2, () -> graph.overlap(0, 2, 2));
        Check.same("overlap(0, 3, 1)", 1, () -> graph.overlap(0, 3, 1));
        Check.same("the graph stays", 4, () -> graph.all());
        graph.read(0, 3);
        Check.same("overlap(0, 1, 3) without a graph", 3, () -> graph.overlap(0, 1, 3));
    }

    private static void overlapRefusesNoNodes() {
        Check.sentence("6: IllegalArgumentException: one is no node");
        ReadGraph graph = Graphs.of("0101012", "1201010", "010", "0101012");
        for (int none : new int[] {LOW, -1, 2, 3, 4, 8, 9, 32, HIGH}) {
            Check.same("overlap(" + none + ", 0, 1)", Check.ARGUMENT, () -> graph.overlap(none, 0, 1));
            Check.same("overlap(0, " + none + ", 1)", Check.ARGUMENT, () -> graph.overlap(0, none, 1));
            Check.same("overlap(" + none + ", itself, 1)", Check.ARGUMENT, () -> graph.overlap(none, none, 1));
        }
        Check.same("overlap(2, 3, 1), both contained", Check.ARGUMENT, () -> graph.overlap(2, 3, 1));
        Check.same("overlap(1, 0, 1)", 5, () -> graph.overlap(1, 0, 1));
        ReadGraph full = nineOfFour();
        Check.same("overlap(9, 0, 1) of nine", Check.ARGUMENT, () -> full.overlap(9, 0, 1));
        Check.same("overlap(0, 9, 1) of nine", Check.ARGUMENT, () -> full.overlap(0, 9, 1));
    }

    private static void overlapRefusesTheSame() {
        Check.sentence("6: IllegalArgumentException: both are the same");
        ReadGraph graph = nineOfFour();
        for (int node = 0; node < 9; node++) {
            int same = node;
            Check.same("overlap(" + node + ", " + node + ", 1)", Check.ARGUMENT, () -> graph.overlap(same, same, 1));
        }
    }

    private static void overlapRefusesLeast() {
        Check.sentence("6: IllegalArgumentException: least is not 1 .. 12");
        ReadGraph graph = Graphs.of("000000000001", "000000000010");
        for (int least : new int[] {LOW, -1, 0, 13, 14, HIGH}) {
            Check.same("overlap(0, 1, " + least + ")", Check.ARGUMENT, () -> graph.overlap(0, 1, least));
        }
        Check.same("overlap(0, 1, 1)", 11, () -> graph.overlap(0, 1, 1));
        Check.same("overlap(0, 1, 12)", 0, () -> graph.overlap(0, 1, 12));
    }

    private static void buildTellsHowManyAreLeft() {
        Check.sentence("7: Makes the graph for some least: how many edges are left");
        ReadGraph graph = Graphs.of("0123", "1230", "2301", "3012", "012", "0123");
        int[] left = {4, 4, 4, 0, 0, 0, 0, 0, 0, 0, 0, 0};
        int[] all = {12, 8, 4, 0, 0, 0, 0, 0, 0, 0, 0, 0};
        for (int least = 1; least <= 12; least++) {
            int some = least;
            Check.same("build(" + least + ")", left[least - 1], () -> graph.build(some));
            Check.same("all() for " + least, all[least - 1], () -> graph.all());
        }
        ReadGraph longest = Graphs.of("000000000001", "000000000010");
        Check.same("build(11)", 1, () -> longest.build(11));
        Check.same("build(12)", 0, () -> longest.build(12));
        Check.same("the most edges", 72, () -> Graphs.dense().build(1));
    }

    private static void buildAgain() {
        Check.sentence("7: Makes the graph for some least: in place of the one before");
        ReadGraph graph = Graphs.line();
        Check.same("build(4)", 0, () -> graph.build(4));
        Check.edges(graph);
        Check.same("way(0, 1) for 4", false, () -> graph.way(0, 1));
        Check.same("build(3)", 3, () -> graph.build(3));
        Check.edges(graph, new int[][] {{0, 1}, {1, 2}, {2, 3}});
        Check.same("way(0, 3) for 3", true, () -> graph.way(0, 3));
        graph.read(Graphs.packed("2230"), 4);
        Check.same("build(1) with one read more", 6, () -> graph.build(1));
        Check.edges(graph, new int[][] {{0, 1}, {1, 2}, {2, 3}, {3, 4}, {4, 0}, {4, 1}});
        // The edge that led from 2 to 0 before must not make the walk unsafe now.
        ReadGraph other = Graphs.twoRings();
        other.clear();
        other.read(Graphs.packed("0231"), 4);
        other.read(Graphs.packed("1220"), 4);
        other.read(Graphs.packed("1232"), 4);
        Check.same("build(1) of other reads", 3, () -> other.build(1));
        Check.edges(other, new int[][] {{0, 1}, {0, 2}, {1, 0}});
        Check.same("safe in the new graph alone", true, () -> other.safe(0x0200, 2));
    }

    private static void buildOfFewReads() {
        Check.sentence("7: how many edges are left: none without two nodes");
        Check.same("no read", 0, () -> new ReadGraph().build(1));
        Check.same("one read", 0, () -> Graphs.of("000").build(1));
        Check.same("one read twice", 0, () -> Graphs.of("000", "000").build(1));
        Check.same("one read and a contained one", 0, () -> Graphs.of("0000", "000").build(1));
        Check.same("two reads", 1, () -> Graphs.of("000", "001").build(1));
    }

    private static void buildLeavesNoWalks() {
        Check.sentence("7: There are no walks any more");
        ReadGraph graph = Graphs.found(Graphs.twoRings());
        Check.same("build(1) again", 4, () -> graph.build(1));
        Check.noWalks(graph);
        Check.same("walks() again", 2, () -> graph.walks());
        Check.same("build(2)", 0, () -> graph.build(2));
        Check.noWalks(graph);
        Check.same("reads stay", 4, () -> graph.letter(2, -1));
    }

    private static void buildRefusesLeast() {
        Check.sentence("7: IllegalArgumentException: least is not 1 .. 12");
        ReadGraph graph = Graphs.found(Graphs.twoRings());
        for (int least : new int[] {LOW, -1, 0, 13, 14, HIGH}) {
            Check.same("build(" + least + ")", Check.ARGUMENT, () -> graph.build(least));
        }
        Check.same("the edges stay", 4, () -> graph.all());
        Check.same("the walks stay", 2, () -> graph.walk(1, -1));
        Check.same("build(12)", 0, () -> graph.build(12));
        Check.same("build(1)", 4, () -> graph.build(1));
        Check.same("build(0) of no reads", Check.ARGUMENT, () -> new ReadGraph().build(0));
        Check.same("build(13) of no reads", Check.ARGUMENT, () -> new ReadGraph().build(13));
    }

    private static void allTellsHowManyThereWere() {
        Check.sentence("8: How many edges there were before some were taken away");
        ReadGraph graph = Graphs.line();
        Check.same("6 for 1", 6, () -> graph.all());
        Check.same("3 are left", 3, () -> graph.build(1));
        graph.build(2);
        Check.same("5 for 2", 5, () -> graph.all());
        graph.build(3);
        Check.same("3 for 3", 3, () -> graph.all());
        graph.build(4);
        Check.same("0 for 4", 0, () -> graph.all());
        Check.same("the most", 72, () -> Graphs.dense().all());
        Check.same("none taken away", 4, () -> Graphs.twoRings().all());
    }

    private static void allWithoutAGraph() {
        Check.sentence("8: 0 when there is no graph");
        Check.same("a new object", 0, () -> new ReadGraph().all());
        Check.same("reads alone", 0, () -> Graphs.of("000", "001").all());
        ReadGraph graph = Graphs.dense();
        graph.clear();
        Check.same("after clear", 0, () -> graph.all());
        ReadGraph more = Graphs.line();
        more.read(0, 3);
        Check.same("after read", 0, () -> more.all());
    }

    private static void edgeTellsWhatIsAsked() {
        Check.sentence("9: Of edge k what 0 from where, 1 to where it leads, 2 the overlap, 3 the hang");
        // 2 to 1 (hang 4) is said by 2 to 0 (hang 1) and 0 to 1 (hang 3).
        ReadGraph graph = Graphs.built(2, "00123", "123000", "30012", "0011");
        int[][] due = {{0, 1, 3, 3}, {1, 0, 2, 3}, {1, 3, 2, 2}, {2, 0, 4, 1}};
        for (int k = 0; k < due.length; k++) {
            for (int what = 0; what < 4; what++) {
                int number = k;
                int asked = what;
                Check.same("edge(" + k + ", " + what + ")", due[k][what], () -> graph.edge(number, asked));
            }
        }
    }

    private static void edgeRefusesWhat() {
        Check.sentence("9: IllegalArgumentException: no such what");
        ReadGraph graph = Graphs.twoRings();
        for (int what : new int[] {LOW, -1, 4, 5, HIGH}) {
            Check.same("edge(0, " + what + ")", Check.ARGUMENT, () -> graph.edge(0, what));
            Check.same("edge(3, " + what + ")", Check.ARGUMENT, () -> graph.edge(3, what));
            // Both are due: the one that the document names first.
            Check.same("edge(4, " + what + ")", Check.ARGUMENT, () -> graph.edge(4, what));
            Check.same("edge(-1, " + what + ")", Check.ARGUMENT, () -> graph.edge(-1, what));
            Check.same("new, edge(0, " + what + ")", Check.ARGUMENT, () -> new ReadGraph().edge(0, what));
        }
        Check.same("edge(0, 0)", 0, () -> graph.edge(0, 0));
        Check.same("edge(0, 3)", 3, () -> graph.edge(0, 3));
    }

    private static void edgeRefusesNumbers() {
        Check.sentence("9: NoSuchElementException: there is no such edge");
        ReadGraph graph = Graphs.twoRings();
        for (int k : new int[] {LOW, -1, 4, 5, 71, 72, 73, HIGH}) {
            for (int what = 0; what < 4; what++) {
                int asked = what;
                Check.same("edge(" + k + ", " + what + ")", Check.ELEMENT, () -> graph.edge(k, asked));
            }
        }
        Check.same("edge(3, 0)", 2, () -> graph.edge(3, 0));
        ReadGraph dense = Graphs.dense();
        Check.same("edge(71, 0) of 72", 8, () -> dense.edge(71, 0));
        Check.same("edge(72, 0) of 72", Check.ELEMENT, () -> dense.edge(72, 0));
        Check.same("edge(-1, 0) of 72", Check.ELEMENT, () -> dense.edge(-1, 0));
        dense.build(2);
        Check.same("edge(0, 0) of none after 72", Check.ELEMENT, () -> dense.edge(0, 0));
        ReadGraph line = Graphs.line();
        Check.same("edge(3, 0) of 3 left of 6", Check.ELEMENT, () -> line.edge(3, 0));
        Check.same("edge(2, 0) of 3 left of 6", 2, () -> line.edge(2, 0));
    }

    private static void wayTellsWhether() {
        Check.sentence("10: Whether there is a way from a node to a node");
        ReadGraph graph = Graphs.line();
        for (int from = 0; from < 4; from++) {
            for (int to = 0; to < 4; to++) {
                int one = from;
                int two = to;
                Check.same("way(" + from + ", " + to + ")", from < to, () -> graph.way(one, two));
                Check.same("ring way(" + from + ", " + to + ")", true, () -> Graphs.ring().way(one, two));
                Check.same("dense way(" + from + ", " + to + ")", true, () -> Graphs.dense().way(one, two));
            }
        }
        Check.same("ring of nine, way(8, 0)", true, () -> Graphs.ringOfNine().way(8, 0));
        Check.same("ring of nine, way(0, 8)", true, () -> Graphs.ringOfNine().way(0, 8));
        graph.read(Graphs.packed("000"), 3);
        Check.same("way(0, 1) without a graph", false, () -> graph.way(0, 1));
        Check.same("way(0, 0) without a graph", false, () -> graph.way(0, 0));
    }

    private static void wayRefusesNoNodes() {
        Check.sentence("10: IllegalArgumentException: one is no node");
        ReadGraph graph = Graphs.built(1, "0011", "0112", "1122", "1223", "112", "0011");
        for (int none : new int[] {LOW, -1, 4, 5, 6, 8, 9, 32, 33, HIGH}) {
            Check.same("way(" + none + ", 1)", Check.ARGUMENT, () -> graph.way(none, 1));
            Check.same("way(0, " + none + ")", Check.ARGUMENT, () -> graph.way(0, none));
            Check.same("way(" + none + ", itself)", Check.ARGUMENT, () -> graph.way(none, none));
        }
        Check.same("way(0, 3)", true, () -> graph.way(0, 3));
        ReadGraph nine = Graphs.ringOfNine();
        Check.same("way(8, 8) of nine", true, () -> nine.way(8, 8));
        Check.same("way(9, 0) of nine", Check.ARGUMENT, () -> nine.way(9, 0));
        Check.same("way(0, 9) of nine", Check.ARGUMENT, () -> nine.way(0, 9));
        Check.same("way(-1, 0) of nine", Check.ARGUMENT, () -> nine.way(-1, 0));
        Check.same("way(0, -1) of nine", Check.ARGUMENT, () -> nine.way(0, -1));
    }

    private static void kindIsZero() {
        Check.sentence("11: 0 the graph is not strong (or there is none)");
        Check.same("a line", 0, () -> Graphs.line().kind());
        Check.same("a new object", 0, () -> new ReadGraph().kind());
        Check.same("reads alone", 0, () -> Graphs.of("0231", "1220", "1330").kind());
        ReadGraph graph = Graphs.ring();
        Check.same("build(4) of a ring by overlaps of 3", 0, () -> graph.build(4));
        Check.same("no edges", 0, () -> graph.kind());
        graph.build(3);
        graph.read(0, 3);
        Check.same("after read", 0, () -> graph.kind());
        ReadGraph cleared = Graphs.twoRings();
        cleared.clear();
        Check.same("after clear", 0, () -> cleared.kind());
    }

    private static void kindIsOne() {
        Check.sentence("11: 1 it is a cycle");
        Check.same("a ring of 2", 1, () -> Graphs.built(1, "0231", "1220").kind());
        Check.same("a ring of 4", 1, () -> Graphs.ring().kind());
        Check.same("a ring of 9", 1, () -> Graphs.ringOfNine().kind());
        ReadGraph said = Graphs.built(1, "0123", "1230", "2301", "3012");
        Check.same("12 edges", 12, () -> said.all());
        Check.same("of which 4 are left", 1, () -> said.kind());
    }

    private static void kindIsTwo() {
        Check.sentence("11: 2 it is strong and no cycle");
        Check.same("two rings", 2, () -> Graphs.twoRings().kind());
        Check.same("a ring of 9 and one edge more", 2, () -> Graphs.shortened().kind());
        Check.same("all edges there can be", 2, () -> Graphs.dense().kind());
    }

    private static void safeTellsWhether() {
        Check.sentence("12: Whether a walk of n edges is safe, the first one in the highest byte");
        ReadGraph graph = Graphs.twoRings();
        Check.same("safe(0, 1)", true, () -> graph.safe(0, 1));
        Check.same("0 then 2", true, () -> graph.safe(0x0002, 2));
        Check.same("2 then 0", false, () -> graph.safe(0x0200, 2));
        Check.same("1 then 3", true, () -> graph.safe(0x0103, 2));
        Check.same("3 then 1", false, () -> graph.safe(0x0301, 2));
        Check.same("0, 2, 0", false, () -> graph.safe(0x000200, 3));
        Check.same("a ring, all round", true, () -> Graphs.ring().safe(0x00010203L, 4));
        Check.same("a ring, from its middle", true, () -> Graphs.ring().safe(0x0203000102L, 5));
    }

    private static void safeOfOneToEightEdges() {
        Check.sentence("12: n edges (1 .. 8) .. IllegalArgumentException: n is not so");
        ReadGraph ring = Graphs.ring();
        Check.same("8 edges", true, () -> ring.safe(0x0001020300010203L, 8));
        Check.same("1 edge", true, () -> ring.safe(0x0001020300010203L, 1));
        for (int n : new int[] {LOW, LOW + 1, -1, 0, 9, 10, 32 + 1, 64 + 1, HIGH}) {
            Check.same("n = " + n, Check.ARGUMENT, () -> ring.safe(0x0001020300010203L, n));
            Check.same("n = " + n + " without edges", Check.ARGUMENT, () -> new ReadGraph().safe(0, n));
        }
        // The first edge of eight counts too.
        Check.same("8 edges that are not safe", false, () -> Graphs.twoWaysBack().safe(0x0800010203040506L, 8));
    }

    private static void safeTakesTheLowestBytes() {
        Check.sentence("12: their numbers in the lowest n bytes of edges");
        ReadGraph graph = Graphs.twoRings();
        Check.same("a byte above two", true, () -> graph.safe(0xff0002L, 2));
        Check.same("all bytes above two", true, () -> graph.safe(0xffffffffffff0002L, 2));
        Check.same("all bytes above one", true, () -> graph.safe(0xffffffffffffff00L, 1));
        Check.same("a byte above seven", true, () -> Graphs.ring().safe(0xff00010203000102L, 7));
        Check.same("the same byte among eight", Check.ARGUMENT, () -> Graphs.ring().safe(0xff00010203000102L, 8));
    }

    private static void safeRefusesNumbers() {
        Check.sentence("12: IllegalArgumentException: there is no such edge");
        ReadGraph graph = Graphs.twoRings();
        Check.same("the last edge", true, () -> graph.safe(3, 1));
        for (long edges : new long[] {4, 71, 72, 127, 128, 254, 255, -1, Long.MAX_VALUE}) {
            Check.same("safe(" + edges + ", 1)", Check.ARGUMENT, () -> graph.safe(edges, 1));
        }
        Check.same("no such first edge", Check.ARGUMENT, () -> graph.safe(0x0402, 2));
        Check.same("no such last edge", Check.ARGUMENT, () -> graph.safe(0x0004, 2));
        Check.same("no such edge between", Check.ARGUMENT, () -> graph.safe(0x000400, 3));
        Check.same("no such edge of eight", Check.ARGUMENT, () -> graph.safe(-1L, 8));
        Check.same("the lowest long", Check.ARGUMENT, () -> graph.safe(Long.MIN_VALUE, 8));
        Check.same("edge 71 of 72", true, () -> Graphs.dense().safe(71, 1));
        Check.same("edge 72 of 72", Check.ARGUMENT, () -> Graphs.dense().safe(72, 1));
        Check.same("edge 0 of none", Check.ARGUMENT, () -> Graphs.of("0231", "1220").safe(0, 1));
    }

    private static void safeRefusesWhatIsNoWalk() {
        Check.sentence("12: IllegalArgumentException: they are no walk");
        ReadGraph graph = Graphs.twoRings();
        Check.same("0 then 1", Check.ARGUMENT, () -> graph.safe(0x0001, 2));
        Check.same("an edge behind itself", Check.ARGUMENT, () -> graph.safe(0x0000, 2));
        Check.same("not at the end", Check.ARGUMENT, () -> graph.safe(0x000203, 3));
        Check.same("not at the beginning", Check.ARGUMENT, () -> graph.safe(0x010002, 3));
        // What is no walk is refused although its beginning is not safe.
        Check.same("not safe, then no walk", Check.ARGUMENT, () -> graph.safe(0x020003, 3));
        ReadGraph ring = Graphs.ring();
        Check.same("the first of eight", Check.ARGUMENT, () -> ring.safe(0x0101020300010203L, 8));
        Check.same("the last of eight", Check.ARGUMENT, () -> ring.safe(0x0001020300010202L, 8));
    }

    private static void walksTellsHowMany() {
        Check.sentence("13: Finds the greatest walks: how many");
        ReadGraph graph = Graphs.twoRings();
        Check.same("walks()", 2, () -> graph.walks());
        Check.same("walks() again", 2, () -> graph.walks());
        Check.walks(graph, new int[][] {{0, 2}, {1, 3}});
        Check.same("the edges stay", 4, () -> graph.all());
        Check.same("the most", 50, () -> Graphs.fifty().walks());
    }

    // There being walks and walks() being refused is never met: the same graph has the same walks, and
    // whatever makes another graph leaves no walks. But up to 50 are found before there are too many.
    private static void walksRefusesTooMany() {
        Check.sentence("13: IllegalStateException: there are too many (there are no walks then)");
        ReadGraph graph = Graphs.fiftyOne();
        Check.same("51 walks", Check.STATE, () -> graph.walks());
        Check.noWalks(graph);
        Check.same("walk(49, 0)", Check.ELEMENT, () -> graph.walk(49, 0));
        Check.same("51 walks again", Check.STATE, () -> graph.walks());
        Check.noWalks(graph);
        Check.same("the edges are there still", 51, () -> graph.build(1));
        Check.same("a ring", Check.STATE, () -> Graphs.ring().walks());
        Check.same("a line", Check.STATE, () -> Graphs.line().walks());
        Check.same("no graph", Check.STATE, () -> Graphs.of("0231", "1220", "1330").walks());
        graph.clear();
        graph.read(Graphs.packed("0231"), 4);
        graph.read(Graphs.packed("1220"), 4);
        graph.read(Graphs.packed("1330"), 4);
        graph.build(1);
        Check.same("fewer after too many", 2, () -> graph.walks());
        Check.walks(graph, new int[][] {{0, 2}, {1, 3}});
    }

    private static void walkTellsEdges() {
        Check.sentence("14: Edge i of greatest walk k; i = -1: how many");
        ReadGraph graph = Graphs.found(Graphs.built(1, "1220", "000", "1330", "001"));
        Check.walks(graph, new int[][] {{5, 0, 2}, {5, 1}, {6, 3, 2}, {6, 4}});
        ReadGraph single = Graphs.found(Graphs.triangle());
        Check.same("the shortest", 1, () -> single.walk(5, -1));
        Check.same("its only edge", 5, () -> single.walk(5, 0));
        ReadGraph longest = Graphs.found(Graphs.shortened());
        Check.same("the longest", 16, () -> longest.walk(1, -1));
        Check.same("its last edge", 6, () -> longest.walk(1, 15));
    }

    private static void walkRefusesNumbers() {
        Check.sentence("14: NoSuchElementException: no such walk (or they were not found)");
        ReadGraph graph = Graphs.twoRings();
        Check.same("not found yet", Check.ELEMENT, () -> graph.walk(0, 0));
        Check.same("not found yet, how many", Check.ELEMENT, () -> graph.walk(0, -1));
        Graphs.found(graph);
        for (int k : new int[] {LOW, -1, 2, 3, 49, 50, HIGH}) {
            Check.same("walk(" + k + ", -1)", Check.ELEMENT, () -> graph.walk(k, -1));
            Check.same("walk(" + k + ", 0)", Check.ELEMENT, () -> graph.walk(k, 0));
            // Both are due: the one that the document names first.
            Check.same("walk(" + k + ", -2)", Check.ELEMENT, () -> graph.walk(k, -2));
            Check.same("walk(" + k + ", 99)", Check.ELEMENT, () -> graph.walk(k, 99));
        }
        Check.same("walk(1, 0)", 1, () -> graph.walk(1, 0));
        ReadGraph fifty = Graphs.found(Graphs.fifty());
        Check.same("walk(49, -1) of 50", true, () -> fifty.walk(49, -1) > 0);
        Check.same("walk(50, -1) of 50", Check.ELEMENT, () -> fifty.walk(50, -1));
    }

    private static void walkRefusesPlaces() {
        Check.sentence("14: IndexOutOfBoundsException: no such edge");
        ReadGraph graph = Graphs.found(Graphs.twoRings());
        for (int i : new int[] {LOW, -3, -2, 2, 3, 39, 40, HIGH}) {
            Check.same("walk(0, " + i + ")", Check.INDEX, () -> graph.walk(0, i));
            Check.same("walk(1, " + i + ")", Check.INDEX, () -> graph.walk(1, i));
        }
        Check.same("walk(1, 1)", 3, () -> graph.walk(1, 1));
        ReadGraph longest = Graphs.found(Graphs.shortened());
        Check.same("walk(0, 15) of 15 edges", Check.INDEX, () -> longest.walk(0, 15));
        Check.same("walk(1, 16) of 16 edges", Check.INDEX, () -> longest.walk(1, 16));
    }

    private static void spelledTellsLetters() {
        Check.sentence("15: Letter i of what greatest walk k spells; i = -1: how many");
        ReadGraph graph = Graphs.found(Graphs.built(2, "20310", "10123320", "100020"));
        Check.spelled(graph, 0, "20310123320310");
        Check.spelled(graph, 1, "203100020310");
        ReadGraph single = Graphs.found(Graphs.triangle());
        Check.spelled(single, 5, "03020");
        ReadGraph longest = Graphs.found(Graphs.shortened());
        String line = "20123" + "0111" + "30" + "332" + "22" + "033" + "1000" + "1320";
        Check.spelled(longest, 1, line + "120" + line.substring(2));
    }

    private static void spelledRefusesNumbers() {
        Check.sentence("15: As for walk: NoSuchElementException");
        ReadGraph graph = Graphs.twoRings();
        Check.same("not found yet", Check.ELEMENT, () -> graph.spelled(0, 0));
        Check.same("not found yet, how many", Check.ELEMENT, () -> graph.spelled(0, -1));
        Graphs.found(graph);
        for (int k : new int[] {LOW, -1, 2, 3, 49, 50, HIGH}) {
            Check.same("spelled(" + k + ", -1)", Check.ELEMENT, () -> graph.spelled(k, -1));
            Check.same("spelled(" + k + ", 0)", Check.ELEMENT, () -> graph.spelled(k, 0));
            // Both are due: the one that the document names first.
            Check.same("spelled(" + k + ", -2)", Check.ELEMENT, () -> graph.spelled(k, -2));
            Check.same("spelled(" + k + ", 999)", Check.ELEMENT, () -> graph.spelled(k, 999));
        }
        Check.same("spelled(1, 0)", 0, () -> graph.spelled(1, 0));
        ReadGraph fifty = Graphs.found(Graphs.fifty());
        Check.same("spelled(49, -1) of 50", true, () -> fifty.spelled(49, -1) > 5);
        Check.same("spelled(50, -1) of 50", Check.ELEMENT, () -> fifty.spelled(50, -1));
    }

    private static void spelledRefusesPlaces() {
        Check.sentence("15: As for walk: IndexOutOfBoundsException");
        ReadGraph graph = Graphs.found(Graphs.twoRings());
        for (int i : new int[] {LOW, -3, -2, 10, 11, 999, HIGH}) {
            Check.same("spelled(0, " + i + ")", Check.INDEX, () -> graph.spelled(0, i));
            Check.same("spelled(1, " + i + ")", Check.INDEX, () -> graph.spelled(1, i));
        }
        Check.same("spelled(1, 9)", 1, () -> graph.spelled(1, 9));
        ReadGraph longest = Graphs.found(Graphs.shortened());
        Check.same("the last letter of the longest", 0, () -> longest.spelled(1, 54));
        Check.same("one behind it", Check.INDEX, () -> longest.spelled(1, 55));
    }
}
