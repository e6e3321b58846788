import java.util.ArrayList;
import java.util.List;

/** Many runs of calls on ReadGraph and on a model that follows the document's words one by one. */
public final class ModelTest {
    private static final int RUNS = 3000;
    private static final int CALLS = 500;

    private static long seed = 1;

    public static void main(String[] args) {
        int[] kinds = new int[3];
        int[] counts = new int[2];
        for (int run = 0; run < RUNS; run++) {
            new Run(run).go(kinds, counts);
        }
        // A run that never meets a graph of each kind would compare nothing of worth.
        Check.same("graphs of each kind were met", true, () -> kinds[0] > 500 && kinds[1] > 100 && kinds[2] > 500);
        Check.same("walks were found and were too many", true, () -> counts[0] > 500 && counts[1] > 50);
        Check.end();
    }

    private static int pick(int bound) {
        seed = seed * 6364136223846793005L + 1442695040888963407L;
        return (int) ((seed >>> 33) % bound);
    }

    private static final class Run {
        private final int number;
        private final ReadGraph graph = new ReadGraph();
        private final Model model = new Model();
        private int calls = 0;

        Run(int number) {
            this.number = number;
        }

        void go(int[] kinds, int[] counts) {
            compareAll();
            addReads();
            compareAll();
            int least = 1 + pick(1 + pick(4));
            compare("build(" + least + ")", () -> model.build(least), () -> graph.build(least));
            kinds[model.kind()]++;
            compareAll();
            Object found = Check.answer(() -> model.walks());
            compare("walks()", () -> found, () -> graph.walks());
            if (model.kind() == 2) {
                counts[found.equals(Check.STATE) ? 1 : 0]++;
            }
            compareWalks();
            compareSafe();
            while (calls < CALLS) {
                compareAny();
            }
        }

        private void compare(String call, Check.Call due, Check.Call got) {
            if (calls < CALLS) {
                calls++;
                Check.same("run " + number + ", call " + calls + ", " + call, Check.answer(due), got);
            }
        }

        private void read(int letters, int n) {
            compare("read(" + letters + ", " + n + ")", () -> model.read(letters, n), () -> graph.read(letters, n));
        }

        private void addReads() {
            int count = 3 + pick(7);
            switch (pick(4)) {
                case 0:
                    addWindows(count, 3 + pick(4));
                    break;
                case 1:
                    addFramed(6 + pick(5));
                    break;
                case 2:
                    addRandom(count, 2 + pick(3), 3 + pick(10));
                    break;
                default:
                    addRandom(count, 2, 3 + pick(3));
            }
        }

        private void addRandom(int count, int kinds, int longest) {
            for (int i = 0; i < count; i++) {
                int n = 3 + pick(longest - 2);
                read(randomLetters(n, kinds), n);
            }
        }

        /** Windows of a ring of letters, most of the time, so that cycles and long walks come up. */
        private void addWindows(int count, int length) {
            int[] ring = new int[count + pick(4) - 1];
            for (int i = 0; i < ring.length; i++) {
                ring[i] = pick(3);
            }
            for (int i = 0; i < count; i++) {
                int letters = 0;
                for (int k = 0; k < length; k++) {
                    letters = letters << 2 | ring[(i + k) % ring.length];
                }
                read(pick(12) == 0 ? randomLetters(length, 3) : letters, length);
            }
        }

        /** Reads that mostly begin and end with the same letter, so that there are many edges. */
        private void addFramed(int count) {
            for (int i = 0; i < count; i++) {
                int letters = randomLetters(5, 4);
                read(pick(8) == 0 ? letters : letters & 0x0fc, 5);
            }
        }

        private int randomLetters(int n, int kinds) {
            // Bits above the read's own ones must not matter.
            int letters = pick(3) == 0 ? pick(1 << 30) : 0;
            for (int k = 0; k < n; k++) {
                letters = letters << 2 | pick(kinds);
            }
            return letters;
        }

        private void compareAll() {
            compare("all()", () -> model.all(), () -> graph.all());
            compare("kind()", () -> model.kind(), () -> graph.kind());
            for (int k = 0; k <= model.edges.size(); k++) {
                for (int what = 0; what < 4; what++) {
                    compareEdge(k, what);
                }
            }
        }

        private void compareEdge(int k, int what) {
            compare("edge(" + k + ", " + what + ")", () -> model.edge(k, what), () -> graph.edge(k, what));
        }

        private void compareWalks() {
            for (int k = 0; k <= model.greatest.size(); k++) {
                int length = k < model.greatest.size() ? model.greatest.get(k).size() : 0;
                for (int i = -1; i <= length; i++) {
                    compareWalk(k, i);
                }
                compareSpelled(k, -1);
                compareSpelled(k, pick(12));
                compareSpelled(k, pick(40));
            }
        }

        private void compareWalk(int k, int i) {
            compare("walk(" + k + ", " + i + ")", () -> model.walk(k, i), () -> graph.walk(k, i));
        }

        private void compareSpelled(int k, int i) {
            compare("spelled(" + k + ", " + i + ")", () -> model.spelled(k, i), () -> graph.spelled(k, i));
        }

        private void compareSafe() {
            for (int time = 0; time < 40 && !model.edges.isEmpty(); time++) {
                int n = 1 + pick(8);
                long packed = pick(5) == 0 ? pick(1 << 30) : 0;
                int at = -1;
                for (int i = 0; i < n; i++) {
                    int e = pick(model.edges.size());
                    for (int turn = 0; turn < model.edges.size() && at >= 0 && model.edges.get(e)[0] != at; turn++) {
                        e = (e + 1) % model.edges.size();
                    }
                    packed = packed << 8 | e;
                    at = model.edges.get(e)[1];
                }
                compareSafe(packed, n);
            }
        }

        private void compareSafe(long packed, int n) {
            compare("safe(" + packed + ", " + n + ")", () -> model.safe(packed, n), () -> graph.safe(packed, n));
        }

        private void compareAny() {
            int a = pick(13) - 2;
            int b = pick(16) - 2;
            int c = pick(15) - 1;
            switch (pick(16)) {
                case 0:
                case 1:
                    compare("letter(" + a + ", " + b + ")", () -> model.letter(a, b), () -> graph.letter(a, b));
                    break;
                case 2:
                case 3:
                    compare("contained(" + a + ")", () -> model.contained(a), () -> graph.contained(a));
                    break;
                case 4:
                case 5:
                case 6:
                    compare("overlap(" + a + ", " + b + ", " + c + ")",
                            () -> model.overlap(a, b, c), () -> graph.overlap(a, b, c));
                    break;
                case 7:
                case 8:
                    compare("way(" + a + ", " + b + ")", () -> model.way(a, b), () -> graph.way(a, b));
                    break;
                case 9:
                    compareEdge(b, pick(6) - 1);
                    break;
                case 10:
                    compareWalk(a, b);
                    break;
                case 11:
                    compareSpelled(a, pick(30) - 2);
                    break;
                case 12:
                    compareSafe(pick(1 << 30) & 0x0f0f0f0f, pick(11) - 1);
                    break;
                default:
                    changeNowAndThen(b, c);
            }
        }

        private void changeNowAndThen(int n, int least) {
            switch (pick(40)) {
                case 0:
                    read(pick(1 << 30), n);
                    break;
                case 1:
                case 2:
                case 3:
                    compare("build(" + least + ")", () -> model.build(least), () -> graph.build(least));
                    break;
                case 4:
                case 5:
                case 6:
                    compare("walks()", () -> model.walks(), () -> graph.walks());
                    break;
                case 7:
                    if (pick(4) == 0) {
                        compare("clear()", () -> model.clear(), () -> {
                            graph.clear();
                            return true;
                        });
                    }
                    break;
                default:
                    compare("all()", () -> model.all(), () -> graph.all());
                    compare("kind()", () -> model.kind(), () -> graph.kind());
            }
        }
    }

    /** The document, said again as plainly as can be. */
    private static final class Model {
        private final List<String> reads = new ArrayList<>();
        /** Each edge as from, to, overlap, hang. */
        private final List<int[]> edges = new ArrayList<>();
        private final List<List<Integer>> greatest = new ArrayList<>();
        private int all = 0;

        int read(int letters, int n) {
            if (n < 3 || n > 12) {
                throw Check.argument();
            }
            if (reads.size() == 9) {
                throw Check.state();
            }
            StringBuilder text = new StringBuilder();
            for (int k = n - 1; k >= 0; k--) {
                text.append(letters >> 2 * k & 3);
            }
            reads.add(text.toString());
            forget();
            return reads.size() - 1;
        }

        boolean clear() {
            reads.clear();
            forget();
            return true;
        }

        private void forget() {
            edges.clear();
            greatest.clear();
            all = 0;
        }

        int letter(int read, int k) {
            mustBe(read >= 0 && read < reads.size());
            return itemOf(reads.get(read), k);
        }

        private static int itemOf(String text, int k) {
            if (k < -1 || k >= text.length()) {
                throw Check.index();
            }
            return k == -1 ? text.length() : text.charAt(k) - '0';
        }

        private static void mustBe(boolean so) {
            if (!so) {
                throw Check.argument();
            }
        }

        boolean contained(int read) {
            mustBe(read >= 0 && read < reads.size());
            String its = reads.get(read);
            for (String other : reads) {
                if (other.length() > its.length() && other.contains(its)) {
                    return true;
                }
            }
            return reads.indexOf(its) < read;
        }

        private boolean node(int read) {
            return read >= 0 && read < reads.size() && !contained(read);
        }

        int overlap(int i, int j, int least) {
            mustBe(node(i) && node(j) && i != j && least >= 1 && least <= 12);
            String one = reads.get(i);
            String two = reads.get(j);
            int greatestShared = 0;
            for (int n = least; n < one.length() && n < two.length(); n++) {
                if (one.substring(one.length() - n).equals(two.substring(0, n))) {
                    greatestShared = n;
                }
            }
            return greatestShared;
        }

        int build(int least) {
            mustBe(least >= 1 && least <= 12);
            forget();
            List<int[]> laid = new ArrayList<>();
            for (int i = 0; i < reads.size(); i++) {
                for (int j = 0; j < reads.size(); j++) {
                    if (i != j && node(i) && node(j) && overlap(i, j, least) > 0) {
                        int n = overlap(i, j, least);
                        laid.add(new int[] {i, j, n, reads.get(j).length() - n});
                    }
                }
            }
            all = laid.size();
            for (int[] edge : laid) {
                if (!said(edge, laid)) {
                    edges.add(edge);
                }
            }
            return edges.size();
        }

        private static boolean said(int[] edge, List<int[]> laid) {
            for (int[] one : laid) {
                for (int[] two : laid) {
                    if (one != edge && two != edge && one[0] == edge[0] && one[1] == two[0] && two[1] == edge[1]
                            && one[3] + two[3] == edge[3]) {
                        return true;
                    }
                }
            }
            return false;
        }

        int all() {
            return all;
        }

        int edge(int k, int what) {
            mustBe(what >= 0 && what <= 3);
            if (k < 0 || k >= edges.size()) {
                throw Check.element();
            }
            return edges.get(k)[what];
        }

        /** Goes all ways whose first edge is not the one given, and looks for one whose last is not the other. */
        private boolean goes(int from, int to, int notFirst, int notLast) {
            boolean[] met = new boolean[edges.size()];
            List<Integer> open = new ArrayList<>();
            for (int e = 0; e < edges.size(); e++) {
                if (edges.get(e)[0] == from && e != notFirst) {
                    met[e] = true;
                    open.add(e);
                }
            }
            for (int at = 0; at < open.size(); at++) {
                int last = open.get(at);
                if (edges.get(last)[1] == to && last != notLast) {
                    return true;
                }
                for (int e = 0; e < edges.size(); e++) {
                    if (!met[e] && edges.get(e)[0] == edges.get(last)[1]) {
                        met[e] = true;
                        open.add(e);
                    }
                }
            }
            return false;
        }

        boolean way(int from, int to) {
            mustBe(node(from) && node(to));
            return goes(from, to, -1, -1);
        }

        int kind() {
            int nodes = 0;
            for (int i = 0; i < reads.size(); i++) {
                nodes += node(i) ? 1 : 0;
                for (int j = 0; j < reads.size(); j++) {
                    if (node(i) && node(j) && !goes(i, j, -1, -1)) {
                        return 0;
                    }
                }
            }
            return edges.isEmpty() ? 0 : edges.size() == nodes ? 1 : 2;
        }

        boolean safe(long packed, int n) {
            mustBe(n >= 1 && n <= 8);
            List<Integer> walk = new ArrayList<>();
            for (int i = 0; i < n; i++) {
                walk.add(0, (int) (packed >> 8 * i & 255));
            }
            for (int e : walk) {
                mustBe(e < edges.size());
            }
            mustBe(joined(walk));
            return safeWalk(walk);
        }

        private boolean joined(List<Integer> walk) {
            for (int i = 1; i < walk.size(); i++) {
                if (edges.get(walk.get(i - 1))[1] != edges.get(walk.get(i))[0]) {
                    return false;
                }
            }
            return true;
        }

        private boolean safeWalk(List<Integer> walk) {
            for (int p = 1; p < walk.size(); p++) {
                for (int q = p; q < walk.size(); q++) {
                    int ep = walk.get(p - 1);
                    int behind = walk.get(q);
                    if (goes(edges.get(behind)[0], edges.get(ep)[1], behind, ep)) {
                        return false;
                    }
                }
            }
            return true;
        }

        int walks() {
            greatest.clear();
            if (kind() != 2) {
                throw Check.state();
            }
            List<List<Integer>> found = new ArrayList<>();
            List<List<Integer>> open = new ArrayList<>();
            for (int e = 0; e < edges.size(); e++) {
                open.add(List.of(e));
            }
            for (int at = 0; at < open.size(); at++) {
                List<Integer> walk = open.get(at);
                if (walk.size() > 40) {
                    throw Check.state();
                }
                boolean longer = false;
                for (int e = 0; e < edges.size(); e++) {
                    if (staysSafe(walk, walk.size(), e)) {
                        open.add(with(walk, walk.size(), e));
                        longer = true;
                    }
                    longer = longer || staysSafe(walk, 0, e);
                }
                if (!longer) {
                    found.add(walk);
                }
            }
            if (found.size() > 50) {
                throw Check.state();
            }
            found.sort(Model::compare);
            greatest.addAll(found);
            return greatest.size();
        }

        private static List<Integer> with(List<Integer> walk, int place, int e) {
            List<Integer> longer = new ArrayList<>(walk);
            longer.add(place, e);
            return longer;
        }

        private boolean staysSafe(List<Integer> walk, int place, int e) {
            List<Integer> longer = with(walk, place, e);
            return joined(longer) && safeWalk(longer);
        }

        private static int compare(List<Integer> one, List<Integer> two) {
            for (int i = 0; i < one.size() && i < two.size(); i++) {
                if (!one.get(i).equals(two.get(i))) {
                    return Integer.compare(one.get(i), two.get(i));
                }
            }
            return Integer.compare(one.size(), two.size());
        }

        int walk(int k, int i) {
            if (k < 0 || k >= greatest.size()) {
                throw Check.element();
            }
            List<Integer> its = greatest.get(k);
            if (i < -1 || i >= its.size()) {
                throw Check.index();
            }
            return i == -1 ? its.size() : its.get(i);
        }

        int spelled(int k, int i) {
            if (k < 0 || k >= greatest.size()) {
                throw Check.element();
            }
            StringBuilder text = new StringBuilder(reads.get(edges.get(greatest.get(k).get(0))[0]));
            for (int e : greatest.get(k)) {
                String end = reads.get(edges.get(e)[1]);
                text.append(end.substring(end.length() - edges.get(e)[3]));
            }
            return itemOf(text.toString(), i);
        }
    }
}
