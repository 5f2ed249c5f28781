import java.math.BigInteger;
import java.util.ArrayList;
import java.util.Arrays;
import java.util.List;

/**
 * The document done slowly and otherwise: ways are listed one by one and sorted by ORDER; trees, of which there are
 * too many, are counted by the determinant of the Laplacian. It is what FrontierCounts is compared with.
 */
final class Model {
    private static final int FEW_EDGES = 13;
    final int kind;
    final int width;
    final int height;
    final int places;
    private final boolean[] hole;
    private final boolean[][] gone;
    private int endA = -1;
    private int endB = -1;
    private List<int[]> edges = new ArrayList<>();
    private int[] told;
    private long[] sorted;
    private boolean[] way;
    private long rank = -1;

    Model(int kind, int width, int height) {
        this.kind = Math.max(0, Math.min(4, kind));
        this.width = Math.max(1, Math.min(5, width));
        this.height = Math.max(1, Math.min(5, height));
        places = this.width * this.height;
        hole = new boolean[places];
        gone = new boolean[places][places];
        number();
    }

    private boolean side(int a, int b) {
        return Math.abs(a % width - b % width) + Math.abs(a / width - b / width) == 1;
    }

    private boolean there(int a) {
        return a >= 0 && a < places;
    }

    private void number() {
        edges = new ArrayList<>();
        for (int a = 0; a < places; a++) {
            for (int b = a + 1; b < places; b++) {
                // Of one place, that to the right has the lesser other end, but in a single column there is none.
                if (side(a, b) && !hole[a] && !hole[b] && !gone[a][b]) {
                    edges.add(new int[] {a, b});
                }
            }
        }
        told = new int[edges.size()];
        changed();
    }

    private void changed() {
        sorted = null;
        way = null;
        rank = -1;
    }

    boolean hole(int x, int y) {
        if (x < 0 || y < 0 || x >= width || y >= height) {
            return false;
        }
        hole[x + width * y] = !hole[x + width * y];
        for (boolean[] row : gone) {
            Arrays.fill(row, false);
        }
        number();
        return true;
    }

    boolean edge(int a, int b, boolean on) {
        if (!there(a) || !there(b) || !side(a, b) || hole[a] || hole[b] || gone[a][b] == !on) {
            return false;
        }
        gone[a][b] = !on;
        gone[b][a] = !on;
        number();
        return true;
    }

    boolean ends(int a, int b) {
        if (!there(a) || !there(b) || a == b) {
            return false;
        }
        endA = a;
        endB = b;
        changed();
        return true;
    }

    int edges() {
        return edges.size();
    }

    int end(int edge, boolean other) {
        return edge < 0 || edge >= edges.size() ? -1 : edges.get(edge)[other ? 1 : 0];
    }

    boolean force(int edge, int how) {
        if (edge < 0 || edge >= edges.size() || how < 0 || how > 2) {
            return false;
        }
        told[edge] = how;
        changed();
        return true;
    }

    long count() {
        return kind == 3 ? trees(told) : ways().length;
    }

    int digit(int i) {
        String text = new StringBuilder(Long.toString(count())).reverse().toString();
        return i < 0 || i >= text.length() ? -1 : text.charAt(i) - '0';
    }

    boolean draw(long seed) {
        way = null;
        rank = -1;
        BigInteger two64 = BigInteger.ONE.shiftLeft(64);
        BigInteger x = new BigInteger("6364136223846793005").multiply(BigInteger.valueOf(seed))
                .add(new BigInteger("1442695040888963407")).mod(two64);
        long n = count();
        if (n == 0) {
            return false;
        }
        rank = x.shiftRight(1).mod(BigInteger.valueOf(n)).longValueExact();
        way = kind == 3 ? treeAt(rank) : setOf(ways()[(int) rank]);
        return true;
    }

    boolean drawn(int edge) {
        return way != null && edge >= 0 && edge < way.length && way[edge];
    }

    long rank() {
        return rank;
    }

    // ---- ways one by one, as keys: the first edge is the highest bit, so that keys sort by ORDER

    private long bit(int edge) {
        return 1L << (62 - edge);
    }

    private boolean[] setOf(long key) {
        boolean[] set = new boolean[edges.size()];
        for (int e = 0; e < set.length; e++) {
            set[e] = (key & bit(e)) != 0;
        }
        return set;
    }

    private long[] ways() {
        if (sorted == null) {
            List<Long> all = edges.size() <= FEW_EDGES ? bySubsets() : bySearch();
            sorted = all.stream().filter(this::asTold).mapToLong(Long::longValue).sorted().toArray();
        }
        return sorted;
    }

    private boolean asTold(long key) {
        for (int e = 0; e < told.length; e++) {
            boolean in = (key & bit(e)) != 0;
            if (told[e] == 1 && !in || told[e] == 2 && in) {
                return false;
            }
        }
        return true;
    }

    List<Long> bySubsets() {
        List<Long> all = new ArrayList<>();
        for (int subset = 0; subset < 1 << edges.size(); subset++) {
            long key = 0;
            for (int e = 0; e < edges.size(); e++) {
                if ((subset >> e & 1) != 0) {
                    key |= bit(e);
                }
            }
            if (isWay(key)) {
                all.add(key);
            }
        }
        return all;
    }

    /** The words of the document, for one set of edges. */
    private boolean isWay(long key) {
        int[] degree = new int[places];
        int[] piece = new int[places];
        Arrays.setAll(piece, p -> p);
        int pieces = 0;
        for (boolean h : hole) {
            pieces += h ? 0 : 1;
        }
        int taken = 0;
        boolean looped = false;
        for (int e = 0; e < edges.size(); e++) {
            if ((key & bit(e)) != 0) {
                int a = edges.get(e)[0];
                int b = edges.get(e)[1];
                taken++;
                degree[a]++;
                degree[b]++;
                if (piece[a] == piece[b]) {
                    looped = true;
                } else {
                    pieces--;
                    int from = piece[b];
                    for (int p = 0; p < places; p++) {
                        piece[p] = piece[p] == from ? piece[a] : piece[p];
                    }
                }
            }
        }
        switch (kind) {
            case 0:
                return all(degree, 1);
            case 1:
                return !looped && endA >= 0 && !hole[endA] && !hole[endB] && degree[endA] == 1 && degree[endB] == 1
                        && piece[endA] == piece[endB] && onePiece(degree, piece, 1, 2);
            case 2:
                return taken > 0 && onePiece(degree, piece, 2, 0);
            case 3:
                return !looped && pieces <= 1;
            default:
                return all(degree, 2);
        }
    }

    private boolean all(int[] degree, int due) {
        for (int p = 0; p < places; p++) {
            if (!hole[p] && degree[p] != due) {
                return false;
            }
        }
        return true;
    }

    /** Whether all places that have edges are of one piece and have two of them, but for so many that have one. */
    private boolean onePiece(int[] degree, int[] piece, int least, int singles) {
        int first = -1;
        int single = 0;
        for (int p = 0; p < places; p++) {
            if (degree[p] == 0) {
                continue;
            }
            first = first < 0 ? p : first;
            single += degree[p] == 1 ? 1 : 0;
            if (degree[p] < least || degree[p] > 2 || piece[p] != piece[first]) {
                return false;
            }
        }
        return single == singles;
    }

    List<Long> bySearch() {
        List<Long> all = new ArrayList<>();
        boolean[] used = new boolean[places];
        switch (kind) {
            case 0:
                degrees(0, 0, new int[places], 1, all);
                break;
            case 1:
                if (endA >= 0 && !hole[endA] && !hole[endB]) {
                    used[endA] = true;
                    paths(endA, endB, 0, used, all);
                }
                break;
            case 2:
                loops(used, all);
                break;
            case 3:
                throw new IllegalStateException("trees are not listed");
            default:
                degrees(0, 0, new int[places], 2, all);
        }
        return all;
    }

    private void paths(int at, int to, long key, boolean[] used, List<Long> all) {
        if (at == to) {
            all.add(key);
            return;
        }
        for (int e = 0; e < edges.size(); e++) {
            int next = across(e, at);
            if (next >= 0 && !used[next]) {
                used[next] = true;
                paths(next, to, key | bit(e), used, all);
                used[next] = false;
            }
        }
    }

    private int across(int e, int at) {
        int[] ends = edges.get(e);
        return ends[0] == at ? ends[1] : ends[1] == at ? ends[0] : -1;
    }

    /** A loop is its last edge by number and a path between that edge's ends by edges before it. */
    private void loops(boolean[] used, List<Long> all) {
        List<int[]> whole = edges;
        for (int last = whole.size() - 1; last >= 0; last--) {
            edges = whole.subList(0, last);
            List<Long> found = new ArrayList<>();
            used[whole.get(last)[0]] = true;
            paths(whole.get(last)[0], whole.get(last)[1], bit(last), used, found);
            used[whole.get(last)[0]] = false;
            all.addAll(found);
        }
        edges = whole;
    }

    private void degrees(int e, long key, int[] degree, int due, List<Long> all) {
        int from = e < edges.size() ? edges.get(e)[0] : places;
        for (int p = 0; p < from; p++) {
            if (!hole[p] && degree[p] != due) {
                return;
            }
        }
        if (e == edges.size()) {
            all.add(key);
            return;
        }
        int a = edges.get(e)[0];
        int b = edges.get(e)[1];
        degrees(e + 1, key, degree, due, all);
        if (degree[a] < due && degree[b] < due) {
            degree[a]++;
            degree[b]++;
            degrees(e + 1, key | bit(e), degree, due, all);
            degree[a]--;
            degree[b]--;
        }
    }

    // ---- trees, by the determinant of the Laplacian

    private boolean[] treeAt(long index) {
        int[] decided = told.clone();
        boolean[] set = new boolean[decided.length];
        for (int e = 0; e < decided.length; e++) {
            if (told[e] == 0) {
                decided[e] = 2;
                long without = trees(decided);
                if (index >= without) {
                    index -= without;
                    decided[e] = 1;
                }
            }
            set[e] = decided[e] == 1;
        }
        return set;
    }

    long trees(int[] say) {
        int[] piece = new int[places];
        Arrays.setAll(piece, p -> p);
        for (int e = 0; e < say.length; e++) {
            if (say[e] == 1) {
                int a = piece[edges.get(e)[0]];
                int b = piece[edges.get(e)[1]];
                if (a == b) {
                    return 0;
                }
                for (int p = 0; p < places; p++) {
                    piece[p] = piece[p] == b ? a : piece[p];
                }
            }
        }
        int[] row = new int[places];
        int rows = 0;
        for (int p = 0; p < places; p++) {
            row[p] = !hole[p] && piece[p] == p ? rows++ : -1;
        }
        BigInteger[][] laplacian = new BigInteger[rows][rows];
        for (BigInteger[] line : laplacian) {
            Arrays.fill(line, BigInteger.ZERO);
        }
        for (int e = 0; e < say.length; e++) {
            int a = row[piece[edges.get(e)[0]]];
            int b = row[piece[edges.get(e)[1]]];
            if (say[e] == 0 && a != b) {
                laplacian[a][a] = laplacian[a][a].add(BigInteger.ONE);
                laplacian[b][b] = laplacian[b][b].add(BigInteger.ONE);
                laplacian[a][b] = laplacian[a][b].subtract(BigInteger.ONE);
                laplacian[b][a] = laplacian[b][a].subtract(BigInteger.ONE);
            }
        }
        return rows <= 1 ? 1 : determinant(laplacian, rows - 1).longValueExact();
    }

    /** Of the first n rows and columns, by Bareiss: every division is exact. */
    private static BigInteger determinant(BigInteger[][] m, int n) {
        BigInteger before = BigInteger.ONE;
        int sign = 1;
        for (int k = 0; k < n - 1; k++) {
            int pivot = k;
            while (pivot < n && m[pivot][k].signum() == 0) {
                pivot++;
            }
            if (pivot == n) {
                return BigInteger.ZERO;
            }
            if (pivot != k) {
                BigInteger[] swapped = m[pivot];
                m[pivot] = m[k];
                m[k] = swapped;
                sign = -sign;
            }
            for (int i = k + 1; i < n; i++) {
                for (int j = k + 1; j < n; j++) {
                    m[i][j] = m[i][j].multiply(m[k][k]).subtract(m[i][k].multiply(m[k][j])).divide(before);
                }
            }
            before = m[k][k];
        }
        return sign < 0 ? m[n - 1][n - 1].negate() : m[n - 1][n - 1];
    }

    /** Whether the two ways of this model to list or count ways say the same; only for few edges. */
    boolean agreesWithItself() {
        if (edges.size() > FEW_EDGES) {
            return true;
        }
        List<Long> bySubsets = bySubsets();
        if (kind == 3) {
            return trees(told) == bySubsets.stream().filter(this::asTold).count();
        }
        List<Long> bySearch = bySearch();
        bySubsets.sort(null);
        bySearch.sort(null);
        return bySubsets.equals(bySearch);
    }
}
