import java.util.NoSuchElementException;

/** Reads of letters, the graph of their overlaps, and the walks that are safe in it. */
public final class ReadGraph {
    private static final int MOST_READS = 9;
    private static final int FEWEST_LETTERS = 3;
    private static final int MOST_LETTERS = 12;
    private static final int MOST_EDGES = MOST_READS * (MOST_READS - 1);
    private static final int MOST_PACKED = 8;
    private static final int MOST_WALKS = 50;
    private static final int LONGEST_WALK = 40;

    private static final int NOT_STRONG = 0;
    private static final int CYCLE = 1;
    private static final int STRONG = 2;

    private final Reads reads;
    private final Edges edges;
    private final Walks greatest;

    public ReadGraph() {
        reads = new Reads();
        edges = new Edges();
        greatest = new Walks(edges);
    }

    public int read(int letters, int n) throws IllegalArgumentException, IllegalStateException {
        if (n < FEWEST_LETTERS || n > MOST_LETTERS) {
            throw new IllegalArgumentException("a read has 3 to 12 letters");
        }
        if (reads.count == MOST_READS) {
            throw new IllegalStateException("there are 9 reads");
        }
        forgetGraph();
        return reads.add(letters, n);
    }

    public void clear() {
        forgetGraph();
        reads.count = 0;
    }

    public int letter(int read, int k) throws IllegalArgumentException, IndexOutOfBoundsException {
        if (!reads.has(read)) {
            throw new IllegalArgumentException("no such read");
        }
        if (k < -1 || k >= reads.lengths[read]) {
            throw new IndexOutOfBoundsException("no such letter");
        }
        return k == -1 ? reads.lengths[read] : reads.letterAt(read, k);
    }

    public boolean contained(int read) throws IllegalArgumentException {
        if (!reads.has(read)) {
            throw new IllegalArgumentException("no such read");
        }
        return !reads.isNode(read);
    }

    public int overlap(int i, int j, int least) throws IllegalArgumentException {
        if (!reads.isNode(i) || !reads.isNode(j) || i == j) {
            throw new IllegalArgumentException("not two nodes");
        }
        if (!isLeast(least)) {
            throw new IllegalArgumentException("least is 1 to 12");
        }
        return reads.lettersShared(i, j, least);
    }

    public int build(int least) throws IllegalArgumentException {
        if (!isLeast(least)) {
            throw new IllegalArgumentException("least is 1 to 12");
        }
        forgetGraph();
        edges.make(reads, least);
        return edges.count;
    }

    public int all() {
        return edges.laid;
    }

    public int edge(int k, int what) throws IllegalArgumentException, NoSuchElementException {
        if (what < 0 || what > 3) {
            throw new IllegalArgumentException("no such what");
        }
        if (!edges.has(k)) {
            throw new NoSuchElementException("no such edge");
        }
        switch (what) {
            case 0:
                return edges.from[k];
            case 1:
                return edges.to[k];
            case 2:
                return reads.lengths[edges.to[k]] - edges.hang[k];
            default:
                return edges.hang[k];
        }
    }

    public boolean way(int from, int to) throws IllegalArgumentException {
        if (!reads.isNode(from) || !reads.isNode(to)) {
            throw new IllegalArgumentException("no such node");
        }
        return holds(edges.reached[from], to);
    }

    public int kind() {
        return edges.shape();
    }

    public boolean safe(long edges, int n) throws IllegalArgumentException {
        if (n < 1 || n > MOST_PACKED) {
            throw new IllegalArgumentException("a walk here has 1 to 8 edges");
        }
        if (!isPackedWalk(edges, n)) {
            throw new IllegalArgumentException("no such edge, or no walk");
        }
        return isPackedWalkSafe(edges, n);
    }

    public int walks() throws IllegalStateException {
        if (edges.shape() != STRONG || !greatest.find()) {
            greatest.count = 0;
            throw new IllegalStateException("too many walks");
        }
        return greatest.count;
    }

    public int walk(int k, int i) throws NoSuchElementException, IndexOutOfBoundsException {
        if (!greatest.has(k)) {
            throw new NoSuchElementException("no such walk");
        }
        if (i < -1 || i >= greatest.lengths[k]) {
            throw new IndexOutOfBoundsException("no such edge");
        }
        return i == -1 ? greatest.lengths[k] : greatest.edgeAt(k, i);
    }

    public int spelled(int k, int i) throws NoSuchElementException, IndexOutOfBoundsException {
        if (!greatest.has(k)) {
            throw new NoSuchElementException("no such walk");
        }
        int length = spelledLength(k);
        if (i < -1 || i >= length) {
            throw new IndexOutOfBoundsException("no such letter");
        }
        return i == -1 ? length : spelledLetter(k, i);
    }

    private void forgetGraph() {
        edges.forget();
        greatest.count = 0;
    }

    private static boolean isLeast(int least) {
        return least >= 1 && least <= MOST_LETTERS;
    }

    private boolean isPackedWalk(long packed, int n) {
        for (int i = 0; i < n; i++) {
            int e = packedEdge(packed, n, i);
            if (!edges.has(e) || i > 0 && edges.from[e] != edges.to[packedEdge(packed, n, i - 1)]) {
                return false;
            }
        }
        return true;
    }

    private boolean isPackedWalkSafe(long packed, int n) {
        for (int later = 1; later < n; later++) {
            for (int earlier = 0; earlier < later; earlier++) {
                if (edges.isPassedBy(packedEdge(packed, n, earlier), packedEdge(packed, n, later))) {
                    return false;
                }
            }
        }
        return true;
    }

    private static int packedEdge(long packed, int n, int i) {
        return (int) (packed >>> 8 * (n - 1 - i)) & 255;
    }

    private int spelledLength(int k) {
        int length = reads.lengths[edges.from[greatest.edgeAt(k, 0)]];
        for (int i = 0; i < greatest.lengths[k]; i++) {
            length += edges.hang[greatest.edgeAt(k, i)];
        }
        return length;
    }

    private int spelledLetter(int k, int place) {
        int start = edges.from[greatest.edgeAt(k, 0)];
        if (place < reads.lengths[start]) {
            return reads.letterAt(start, place);
        }
        // How far behind the letters spelled so far the wanted one stands.
        int left = place - reads.lengths[start];
        for (int i = 0; i < greatest.lengths[k]; i++) {
            int e = greatest.edgeAt(k, i);
            int end = edges.to[e];
            if (left < edges.hang[e]) {
                return reads.letterAt(end, reads.lengths[end] - edges.hang[e] + left);
            }
            left -= edges.hang[e];
        }
        return 0;
    }

    private static boolean holds(int nodes, int node) {
        return (nodes >> node & 1) != 0;
    }

    /** The reads, each packed as it came: two bits a letter, the first letter highest. */
    private static final class Reads {
        private final int[] packed = new int[MOST_READS];
        private final int[] lengths = new int[MOST_READS];
        private int count;

        private int add(int letters, int n) {
            packed[count] = lowest(letters, n);
            lengths[count] = n;
            count++;
            return count - 1;
        }

        private boolean has(int read) {
            return read >= 0 && read < count;
        }

        private int letterAt(int read, int k) {
            return packed[read] >> 2 * (lengths[read] - 1 - k) & 3;
        }

        private boolean isNode(int read) {
            if (!has(read)) {
                return false;
            }
            for (int other = 0; other < count; other++) {
                if (isSaidBy(read, other)) {
                    return false;
                }
            }
            return true;
        }

        private boolean isSaidBy(int read, int other) {
            if (lengths[other] == lengths[read]) {
                return other < read && packed[other] == packed[read];
            }
            // Not once when the other read is shorter.
            for (int behind = lengths[other] - lengths[read]; behind >= 0; behind--) {
                if (lowest(packed[other] >> 2 * behind, lengths[read]) == packed[read]) {
                    return true;
                }
            }
            return false;
        }

        private int lettersShared(int i, int j, int least) {
            for (int n = Math.min(lengths[i], lengths[j]) - 1; n >= least; n--) {
                if (lowest(packed[i], n) == packed[j] >> 2 * (lengths[j] - n)) {
                    return n;
                }
            }
            return 0;
        }

        private static int lowest(int letters, int n) {
            return letters & (1 << 2 * n) - 1;
        }
    }

    /** The edges that are left, and what follows from them; sets of nodes are bits of an int. */
    private static final class Edges {
        // Hangs of all edges there were, 0 where there was none: a hang is never 0.
        private final int[] hangs = new int[MOST_READS * MOST_READS];
        private final int[] from = new int[MOST_EDGES];
        private final int[] to = new int[MOST_EDGES];
        private final int[] hang = new int[MOST_EDGES];
        // The edges from a node are those from firstOut[node] to before firstOut[node + 1].
        private final int[] firstOut = new int[MOST_READS + 1];
        private final int[] after = new int[MOST_READS];
        private final int[] before = new int[MOST_READS];
        private final int[] reached = new int[MOST_READS];
        private int nodes;
        private int laid;
        private int count;

        private boolean has(int k) {
            return k >= 0 && k < count;
        }

        private void forget() {
            for (int i = 0; i < MOST_READS; i++) {
                after[i] = 0;
                before[i] = 0;
                reached[i] = 0;
            }
            nodes = 0;
            laid = 0;
            count = 0;
        }

        private void make(Reads reads, int least) {
            findNodes(reads);
            layAll(reads, least);
            for (int i = 0; i < MOST_READS; i++) {
                firstOut[i] = count;
                keepUnsaid(i);
            }
            firstOut[MOST_READS] = count;
            findReached();
        }

        private void findNodes(Reads reads) {
            for (int i = 0; i < MOST_READS; i++) {
                if (reads.isNode(i)) {
                    nodes |= 1 << i;
                }
            }
        }

        private void layAll(Reads reads, int least) {
            for (int i = 0; i < MOST_READS; i++) {
                for (int j = 0; j < MOST_READS; j++) {
                    int n = i != j && holds(nodes, i) && holds(nodes, j) ? reads.lettersShared(i, j, least) : 0;
                    hangs[i * MOST_READS + j] = n == 0 ? 0 : reads.lengths[j] - n;
                    laid += n == 0 ? 0 : 1;
                }
            }
        }

        private void keepUnsaid(int i) {
            for (int j = 0; j < MOST_READS; j++) {
                int its = hangs[i * MOST_READS + j];
                if (its != 0 && !isSaid(i, j, its) && count < MOST_EDGES) {
                    from[count] = i;
                    to[count] = j;
                    hang[count] = its;
                    after[i] |= 1 << j;
                    before[j] |= 1 << i;
                    count++;
                }
            }
        }

        private boolean isSaid(int i, int k, int its) {
            for (int j = 0; j < MOST_READS; j++) {
                int one = hangs[i * MOST_READS + j];
                int two = hangs[j * MOST_READS + k];
                if (one != 0 && two != 0 && one + two == its) {
                    return true;
                }
            }
            return false;
        }

        private void findReached() {
            for (int i = 0; i < MOST_READS; i++) {
                reached[i] = after[i];
            }
            // Step by step, ways may also go through one node more.
            for (int through = 0; through < MOST_READS; through++) {
                for (int i = 0; i < MOST_READS; i++) {
                    if (holds(reached[i], through)) {
                        reached[i] |= reached[through];
                    }
                }
            }
        }

        private int shape() {
            if (count == 0) {
                return NOT_STRONG;
            }
            for (int i = 0; i < MOST_READS; i++) {
                if (holds(nodes, i) && reached[i] != nodes) {
                    return NOT_STRONG;
                }
            }
            return count == Integer.bitCount(nodes) ? CYCLE : STRONG;
        }

        /**
         * Whether a way leads from where the later edge begins to where the earlier one ends, its first
         * edge not the later one, its last edge not the earlier one; both are edges of one walk. No two
         * edges lead from one node to one other, so an edge is another one when its other end is. A way of
         * one edge is met as a longer one: over that edge, along the walk, and over that edge again.
         */
        private boolean isPassedBy(int earlier, int later) {
            int starts = after[from[later]] & ~(1 << to[later]);
            int ends = before[to[earlier]] & ~(1 << from[earlier]);
            for (int i = 0; i < MOST_READS; i++) {
                if (holds(starts, i) && ((1 << i | reached[i]) & ends) != 0) {
                    return true;
                }
            }
            return false;
        }
    }

    /**
     * The greatest safe walks, found by putting edges behind a trail as long as it stays safe. A part of
     * a safe walk is safe, so all safe walks are met so, and in the order in which they are numbered.
     */
    private static final class Walks {
        // A greatest walk of 40 edges has 820 parts: more than 50 * 820 trails tell that there are too
        // many. Each trail is one step on and one step back.
        private static final int MOST_STEPS = 100000;

        private final Edges edges;
        private final int[] rows = new int[MOST_WALKS * LONGEST_WALK];
        private final int[] lengths = new int[MOST_WALKS];
        private int count;

        private final int[] trail = new int[LONGEST_WALK];
        // Which edge is to be tried next behind each edge of the trail.
        private final int[] next = new int[LONGEST_WALK];
        private int length;

        private Walks(Edges edges) {
            this.edges = edges;
        }

        private boolean has(int k) {
            return k >= 0 && k < count;
        }

        private int edgeAt(int k, int i) {
            return rows[k * LONGEST_WALK + i];
        }

        /** Finds them in a strong graph: whether there are not too many. */
        private boolean find() {
            count = 0;
            int steps = MOST_STEPS;
            for (int first = 0; first < edges.count; first++) {
                length = 0;
                stepOn(first);
                steps = findFrom(steps);
                if (steps < 0) {
                    return false;
                }
            }
            return true;
        }

        /** Finds those that begin as the trail does: how many steps are left then, -1 when too many. */
        private int findFrom(int most) {
            boolean grew = false;
            for (int steps = most; steps > 0; steps--) {
                int e = nextBehind();
                if (e >= 0) {
                    if (length == LONGEST_WALK) {
                        return -1;
                    }
                    stepOn(e);
                    grew = false;
                } else {
                    if (!grew && !hasBefore() && !keepTrail()) {
                        return -1;
                    }
                    length--;
                    grew = true;
                }
                if (length == 0) {
                    return steps;
                }
            }
            return -1;
        }

        private void stepOn(int e) {
            trail[length] = e;
            next[length] = edges.firstOut[edges.to[e]];
            length++;
        }

        /** The next edge not tried yet that leaves the trail safe when put behind it, or -1. */
        private int nextBehind() {
            int end = edges.to[trail[length - 1]];
            for (int e = next[length - 1]; e < edges.firstOut[end + 1]; e++) {
                if (staysSafeBehind(e)) {
                    next[length - 1] = e + 1;
                    return e;
                }
            }
            return -1;
        }

        private boolean staysSafeBehind(int e) {
            for (int i = 0; i < length; i++) {
                if (edges.isPassedBy(trail[i], e)) {
                    return false;
                }
            }
            return true;
        }

        private boolean hasBefore() {
            for (int e = 0; e < edges.count; e++) {
                if (edges.to[e] == edges.from[trail[0]] && staysSafeBefore(e)) {
                    return true;
                }
            }
            return false;
        }

        private boolean staysSafeBefore(int e) {
            for (int i = 0; i < length; i++) {
                if (edges.isPassedBy(e, trail[i])) {
                    return false;
                }
            }
            return true;
        }

        private boolean keepTrail() {
            if (count == MOST_WALKS) {
                return false;
            }
            for (int i = 0; i < length; i++) {
                rows[count * LONGEST_WALK + i] = trail[i];
            }
            lengths[count] = length;
            count++;
            return true;
        }
    }
}
