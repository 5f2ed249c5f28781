import java.util.Arrays;

/**
 * Counts of ways in a small grid, exact: pairs that cover it, paths, loops, trees, covers by loops;
 * with edges that have to be in or out; one way drawn evenly by a seed.
 *
 * The places are gone through in order, and of each one it is chosen whether its edge to the right and
 * its edge below are taken. That is the order of the edges' numbers, so the choices 0, 1, 2, 3 of one
 * place after another run through the ways in ORDER, and counting and drawing share one table.
 */
public final class FrontierCounts {
    private static final int MOST_KIND = 4;
    private static final int MOST_SIDE = 5;
    private static final int MOST_DIGITS = 19;
    private static final int FREE = 0;
    private static final int IN = 1;
    private static final int OUT = 2;
    private static final int PAIRS = 0;
    private static final int PATH = 1;
    private static final int LOOP = 2;
    private static final int TREE = 3;
    private static final int NONE = -1;
    private static final long SEED_FACTOR = 6364136223846793005L;
    private static final long SEED_TERM = 1442695040888963407L;

    private final Grid grid;
    private final Layers layers;
    private final int[] slots;
    private int slotCount;
    private long gone;
    private long toldIn;
    private long toldOut;
    private boolean built;
    private boolean weighed;
    private long drawnWay;
    private long drawnRank;

    public FrontierCounts(int kind, int width, int height) {
        grid = new Grid(held(width, 1, MOST_SIDE), held(height, 1, MOST_SIDE));
        int heldKind = held(kind, 0, MOST_KIND);
        layers = new Layers(grid, ruleOf(heldKind, grid), mostCodes(heldKind));
        slots = new int[2 * grid.places];
        drawnRank = NONE;
        numberEdges();
    }

    public boolean hole(int x, int y) {
        if (x < 0 || x >= grid.width || y < 0 || y >= grid.height) {
            return false;
        }
        grid.turnHole(x + grid.width * y);
        gone = 0;
        built = false;
        numberEdges();
        return true;
    }

    public boolean edge(int a, int b, boolean on) {
        int slot = grid.slotBetween(a, b);
        if (slot == NONE || has(gone, slot) != on) {
            return false;
        }
        gone ^= 1L << slot;
        numberEdges();
        return true;
    }

    public boolean ends(int a, int b) {
        if (!grid.inside(a) || !grid.inside(b) || a == b) {
            return false;
        }
        grid.tellEnds(a, b);
        built = false;
        forgetWays();
        return true;
    }

    public int edges() {
        return slotCount;
    }

    public int end(int edge, boolean other) {
        if (!isEdge(edge)) {
            return -1;
        }
        int slot = slots[edge];
        return other ? grid.farEnd(slot) : grid.nearEnd(slot);
    }

    public boolean force(int edge, int how) {
        if (!isEdge(edge) || how < FREE || how > OUT) {
            return false;
        }
        long bit = 1L << slots[edge];
        toldIn = how == IN ? toldIn | bit : toldIn & ~bit;
        toldOut = how == OUT ? toldOut | bit : toldOut & ~bit;
        forgetWays();
        return true;
    }

    public long count() {
        if (!built) {
            layers.build();
            built = true;
        }
        if (!weighed) {
            // What was taken away counts as OUT, so that only holes and ends ask for a new table.
            layers.weigh(toldIn, toldOut | gone);
            weighed = true;
        }
        return layers.total();
    }

    public int digit(int i) {
        long rest = count();
        for (int at = 0; at < MOST_DIGITS; at++) {
            if (at == i) {
                return (int) (rest % 10);
            }
            rest /= 10;
            if (rest == 0) {
                return -1;
            }
        }
        return -1;
    }

    public boolean draw(long seed) {
        drawnRank = NONE;
        long n = count();
        if (n <= 0) {
            return false;
        }
        long index = ((SEED_FACTOR * seed + SEED_TERM) >>> 1) % n;
        drawnWay = layers.wayAt(index);
        drawnRank = index;
        return true;
    }

    public boolean drawn(int edge) {
        return drawnRank != NONE && isEdge(edge) && has(drawnWay, slots[edge]);
    }

    public long rank() {
        return drawnRank;
    }

    private static int held(int value, int least, int most) {
        return Math.max(least, Math.min(most, value));
    }

    private static boolean has(long set, int slot) {
        return ((set >>> slot) & 1L) != 0;
    }

    private static Rule ruleOf(int kind, Grid grid) {
        switch (kind) {
            case PAIRS:
                return new Degrees(grid, 1);
            case PATH:
                return new Lines(grid, false);
            case LOOP:
                return new Lines(grid, true);
            case TREE:
                return new Trees(grid);
            default:
                return new Degrees(grid, 2);
        }
    }

    private static int mostCodes(int kind) {
        switch (kind) {
            case PATH:
            case LOOP:
                return Lines.MOST_CODES;
            case TREE:
                return Trees.MOST_CODES;
            default:
                return Degrees.MOST_CODES;
        }
    }

    private boolean isEdge(int edge) {
        return edge >= 0 && edge < slotCount && edge < slots.length;
    }

    private void numberEdges() {
        slotCount = 0;
        for (int place = 0; place < grid.places; place++) {
            addSlot(Grid.rightOf(place));
            addSlot(Grid.belowOf(place));
        }
        toldIn = 0;
        toldOut = 0;
        forgetWays();
    }

    private void addSlot(int slot) {
        if (grid.isOpen(slot) && !has(gone, slot) && slotCount < slots.length) {
            slots[slotCount] = slot;
            slotCount++;
        }
    }

    private void forgetWays() {
        weighed = false;
        drawnRank = NONE;
    }

    /**
     * Places, holes, ends and SLOTS: where an edge can be. A place has two slots, that below first: so the two
     * bits of a place in a set of slots, read as a number, grow as ORDER does.
     */
    private static final class Grid {
        private final int width;
        private final int height;
        private final int places;
        private int holes;
        private long open;
        private int lastPlace;
        private int endA;
        private int endB;

        private Grid(int width, int height) {
            this.width = width;
            this.height = height;
            places = width * height;
            endA = NONE;
            endB = NONE;
            findOpenSlots();
        }

        private static int belowOf(int place) {
            return 2 * place;
        }

        private static int rightOf(int place) {
            return 2 * place + 1;
        }

        private boolean inside(int place) {
            return place >= 0 && place < places;
        }

        private boolean isPlace(int place) {
            return inside(place) && ((holes >>> place) & 1) == 0;
        }

        private boolean isEnd(int place) {
            return place == endA || place == endB;
        }

        private boolean isOpen(int slot) {
            return has(open, slot);
        }

        private int openChoices(int place) {
            return (int) (open >>> belowOf(place)) & 3;
        }

        private void turnHole(int place) {
            holes ^= 1 << place;
            findOpenSlots();
        }

        private void tellEnds(int a, int b) {
            endA = a;
            endB = b;
        }

        private void findOpenSlots() {
            open = 0;
            lastPlace = NONE;
            for (int y = 0; y < height; y++) {
                for (int x = 0; x < width; x++) {
                    openSlotsAt(x + width * y, x + 1 < width);
                }
            }
        }

        private void openSlotsAt(int place, boolean rowGoesOn) {
            if (!isPlace(place)) {
                return;
            }
            lastPlace = place;
            if (rowGoesOn && isPlace(place + 1)) {
                open |= 1L << rightOf(place);
            }
            if (isPlace(place + width)) {
                open |= 1L << belowOf(place);
            }
        }

        private int slotBetween(int a, int b) {
            if (!inside(a) || !inside(b)) {
                return NONE;
            }
            int lesser = Math.min(a, b);
            int apart = Math.max(a, b) - lesser;
            if (apart == 1 && isOpen(rightOf(lesser))) {
                return rightOf(lesser);
            }
            return apart == width && isOpen(belowOf(lesser)) ? belowOf(lesser) : NONE;
        }

        private int nearEnd(int slot) {
            return slot >> 1;
        }

        private int farEnd(int slot) {
            int near = nearEnd(slot);
            return slot == rightOf(near) ? near + 1 : near + width;
        }
    }

    /** What a kind asks: a code holds all of the earlier choices that the later ones have to know. */
    private abstract static class Rule {
        static final int DEAD = -1;
        static final int BELOW = 1;
        static final int RIGHT = 2;

        abstract int firstCode();

        /** The code after a choice (BELOW, RIGHT, both or 0) at a place, or DEAD when no way has it. */
        abstract int codeAfter(int before, int place, int column, int choice);

        abstract boolean isWay(int lastCode);
    }

    /**
     * Each place is an end of so many edges. The code has a bit for each edge that goes over the frontier:
     * those down from the columns that are through, that from the left, those from above.
     */
    private static final class Degrees extends Rule {
        private static final int MOST_CODES = 1 << (MOST_SIDE + 1);

        private final Grid grid;
        private final int degree;

        private Degrees(Grid grid, int degree) {
            this.grid = grid;
            this.degree = degree;
        }

        int firstCode() {
            return 0;
        }

        int codeAfter(int before, int place, int column, int choice) {
            int code = column == 0 ? before << 1 : before;
            int due = grid.isPlace(place) ? degree : 0;
            if (Integer.bitCount((code >>> column) & 3) + Integer.bitCount(choice) != due) {
                return DEAD;
            }
            return (code & ~(3 << column)) | (choice << column);
        }

        boolean isWay(int lastCode) {
            return lastCode == 0;
        }
    }

    /**
     * One path or one loop. The code has two bits for each edge that goes over the frontier, in the same order
     * as in Degrees: two edges of one piece are a bracket that opens and one that closes (pieces never cross,
     * so brackets tell who belongs together), and the edge of a piece that comes from an end is an END.
     */
    private static final class Lines extends Rule {
        private static final int OPENS = 1;
        private static final int CLOSES = 2;
        private static final int END = 3;
        private static final int LAST_SHIFT = 2 * MOST_SIDE;
        private static final int DONE = 1 << (LAST_SHIFT + 2);
        /* With both ends behind: two ENDs among six edges, brackets on the other four (15 * 9), and DONE. */
        private static final int MOST_CODES = 136;

        private final Grid grid;
        private final boolean loop;

        private Lines(Grid grid, boolean loop) {
            this.grid = grid;
            this.loop = loop;
        }

        int firstCode() {
            return 0;
        }

        boolean isWay(int lastCode) {
            return lastCode == DONE;
        }

        int codeAfter(int before, int place, int column, int choice) {
            if (before == DONE) {
                return choice == 0 ? DONE : DEAD;
            }
            int shift = 2 * column;
            int code = column == 0 ? before << 2 : before;
            if (!loop && grid.isEnd(place)) {
                code = withEnd(code, shift);
            }
            if (code == DEAD) {
                return DEAD;
            }
            int left = symbol(code, shift);
            int up = symbol(code, shift + 2);
            int rest = code & ~(15 << shift);
            int degree = (left != 0 ? 1 : 0) + (up != 0 ? 1 : 0) + Integer.bitCount(choice);
            if (degree == 0) {
                return rest;
            }
            if (degree != 2) {
                return DEAD;
            }
            if (choice == 0) {
                return joined(code, shift);
            }
            if (choice == BELOW + RIGHT) {
                return rest | (OPENS << shift) | (CLOSES << (shift + 2));
            }
            return rest | ((left | up) << (choice == BELOW ? shift : shift + 2));
        }

        /* As if the path came from outside, by a side that no edge uses: then an end is like any other place. */
        private static int withEnd(int code, int shift) {
            if (symbol(code, shift) == 0) {
                return code | (END << shift);
            }
            return symbol(code, shift + 2) == 0 ? code | (END << (shift + 2)) : DEAD;
        }

        private int joined(int code, int shift) {
            int left = symbol(code, shift);
            int up = symbol(code, shift + 2);
            int rest = code & ~(15 << shift);
            boolean closesLoop = left == OPENS && up == CLOSES;
            if (closesLoop || left == END && up == END) {
                return rest == 0 && closesLoop == loop ? DONE : DEAD;
            }
            if (left == CLOSES && up == OPENS) {
                return rest;
            }
            if (left == END) {
                return withMate(code, rest, shift + 2, END);
            }
            if (up == END) {
                return withMate(code, rest, shift, END);
            }
            // Two alike: the mate of the inner one has the mate of the outer one for its own from now on.
            return withMate(code, rest, left == OPENS ? shift + 2 : shift, left);
        }

        private static int symbol(int code, int shift) {
            return (code >>> shift) & 3;
        }

        /** The rest, where the mate of the symbol at shift becomes another symbol. */
        private static int withMate(int code, int rest, int shift, int becomes) {
            int own = symbol(code, shift);
            int step = own == OPENS ? 2 : -2;
            int depth = 0;
            for (int at = shift; at >= 0 && at <= LAST_SHIFT; at += step) {
                int met = symbol(code, at);
                if (met == own) {
                    depth++;
                } else if (met + own == OPENS + CLOSES) {
                    depth--;
                }
                if (depth == 0) {
                    return (rest & ~(3 << at)) | (becomes << at);
                }
            }
            return DEAD;
        }
    }

    /**
     * One tree through all places. The code has three bits for each column: to which piece its place belongs
     * that is next to be gone through (0 for a hole), pieces being numbered from 1 on by their first column.
     */
    private static final class Trees extends Rule {
        /* So many partitions of five places in a row there are whose parts don't cross; holes leave fewer. */
        private static final int MOST_CODES = 42;
        private static final int FRESH = MOST_SIDE + 1;

        private final Grid grid;
        private final int[] pieces;

        private Trees(Grid grid) {
            this.grid = grid;
            pieces = new int[grid.width];
        }

        int firstCode() {
            for (int column = 0; column < pieces.length; column++) {
                pieces[column] = grid.isPlace(column) ? column + 1 : 0;
            }
            return codeOfPieces();
        }

        boolean isWay(int lastCode) {
            return lastCode == 0;
        }

        int codeAfter(int code, int place, int column, int choice) {
            if (column < 0 || column >= pieces.length) {
                return DEAD;
            }
            for (int c = 0; c < pieces.length; c++) {
                pieces[c] = (code >>> (3 * c)) & 7;
            }
            int own = pieces[column];
            if ((choice & RIGHT) != 0 && !joinRight(column)) {
                return DEAD;
            }
            int below = (choice & BELOW) != 0 ? own : FRESH;
            pieces[column] = grid.isPlace(place + grid.width) ? below : 0;
            boolean cutOff = own != 0 && !isThere(own);
            return cutOff && place != grid.lastPlace ? DEAD : codeOfPieces();
        }

        private boolean joinRight(int column) {
            if (column + 1 >= pieces.length || pieces[column] == pieces[column + 1]) {
                return false;
            }
            int own = pieces[column];
            int other = pieces[column + 1];
            for (int c = 0; c < pieces.length; c++) {
                if (pieces[c] == other) {
                    pieces[c] = own;
                }
            }
            return true;
        }

        private boolean isThere(int piece) {
            for (int c = 0; c < pieces.length; c++) {
                if (pieces[c] == piece) {
                    return true;
                }
            }
            return false;
        }

        private int codeOfPieces() {
            int code = 0;
            int names = 0;
            int named = 0;
            for (int c = 0; c < pieces.length; c++) {
                int piece = pieces[c];
                if (piece != 0 && ((names >>> (3 * piece)) & 7) == 0) {
                    named++;
                    names |= named << (3 * piece);
                }
                code |= ((names >>> (3 * piece)) & 7) << (3 * c);
            }
            return code;
        }
    }

    /**
     * For each place the codes that can stand before it (its layer), where the four choices lead from each, and
     * how many ways go on from there. All rows are made once, as what a run of calls makes is never given back.
     */
    private static final class Layers {
        private static final int CHOICES = 4;
        private static final int BUCKETS = 512;
        private static final int BUCKET_SHIFT = 23;
        private static final int SPREAD = 0x9E3779B1;
        /* Where a choice leads takes eight bits: no layer has as many codes as NOWHERE. */
        private static final int NOWHERE = 255;

        private final Grid grid;
        private final Rule rule;
        private final int most;
        private final int[] sizes;
        private final int[] leads;
        private final long[] ways;
        private final int[] buckets;
        private int[] codes;
        private int[] nextCodes;
        private int nextSize;
        private long mustHave;
        private long mayNotHave;

        private Layers(Grid grid, Rule rule, int most) {
            this.grid = grid;
            this.rule = rule;
            this.most = most;
            sizes = new int[grid.places + 1];
            leads = new int[grid.places * most];
            ways = new long[(grid.places + 1) * most];
            buckets = new int[BUCKETS];
            codes = new int[most];
            nextCodes = new int[most];
        }

        private void build() {
            Arrays.fill(buckets, 0);
            codes[0] = rule.firstCode();
            sizes[0] = 1;
            int column = 0;
            for (int place = 0; place < grid.places; place++) {
                nextSize = 0;
                for (int at = 0; at < sizes[place]; at++) {
                    leads[place * most + at] = leadsFrom(codes[at], place, column);
                }
                sizes[place + 1] = nextSize;
                swapCodes();
                column = column + 1 < grid.width ? column + 1 : 0;
            }
            for (int at = 0; at < sizes[grid.places]; at++) {
                ways[grid.places * most + at] = rule.isWay(codes[at]) ? 1 : 0;
            }
        }

        private void swapCodes() {
            int[] through = codes;
            codes = nextCodes;
            nextCodes = through;
        }

        private int leadsFrom(int code, int place, int column) {
            int open = grid.openChoices(place);
            int packed = 0;
            for (int choice = 0; choice < CHOICES; choice++) {
                int next = (choice & ~open) == 0 ? rule.codeAfter(code, place, column, choice) : Rule.DEAD;
                int lead = next == Rule.DEAD ? NOWHERE : indexOfNext(next, place + 1);
                packed |= lead << (8 * choice);
            }
            return packed;
        }

        /* A bucket tells its layer too (never 0), so that none has to be emptied between two layers. */
        private int indexOfNext(int code, int layer) {
            int bucket = (code * SPREAD) >>> BUCKET_SHIFT;
            for (int tries = 0; tries < BUCKETS; tries++) {
                int kept = buckets[bucket];
                if (kept >>> 8 != layer) {
                    return addNext(code, layer, bucket);
                }
                int index = kept & 255;
                if (index < nextSize && nextCodes[index] == code) {
                    return index;
                }
                bucket = (bucket + 1) % BUCKETS;
            }
            return NOWHERE;
        }

        private int addNext(int code, int layer, int bucket) {
            if (nextSize >= most) {
                return NOWHERE;
            }
            int index = nextSize;
            nextCodes[index] = code;
            buckets[bucket] = (layer << 8) | index;
            nextSize++;
            return index;
        }

        private void weigh(long in, long out) {
            mustHave = in;
            mayNotHave = out;
            for (int place = grid.places - 1; place >= 0; place--) {
                for (int at = 0; at < sizes[place]; at++) {
                    ways[place * most + at] = waysFrom(place, at);
                }
            }
        }

        private long waysFrom(int place, int at) {
            long sum = 0;
            for (int choice = 0; choice < CHOICES; choice++) {
                sum += waysBy(place, at, choice);
            }
            return sum;
        }

        private long waysBy(int place, int at, int choice) {
            int lead = leadBy(place, at, choice);
            if (lead >= sizes[place + 1] || !isAllowed(place, choice)) {
                return 0;
            }
            return ways[(place + 1) * most + lead];
        }

        private int leadBy(int place, int at, int choice) {
            return (leads[place * most + at] >>> (8 * choice)) & 255;
        }

        private boolean isAllowed(int place, int choice) {
            int shift = Grid.belowOf(place);
            int must = (int) (mustHave >>> shift) & 3;
            int mayNot = (int) (mayNotHave >>> shift) & 3;
            return (choice & must) == must && (choice & mayNot) == 0;
        }

        private long total() {
            return ways[0];
        }

        /** The way with index less ones in ORDER, as a set of slots; index is below total(). */
        private long wayAt(long index) {
            long way = 0;
            long before = index;
            int at = 0;
            for (int place = 0; place < grid.places; place++) {
                int choice = 0;
                while (choice < CHOICES - 1 && before >= waysBy(place, at, choice)) {
                    before -= waysBy(place, at, choice);
                    choice++;
                }
                int lead = leadBy(place, at, choice);
                if (lead >= sizes[place + 1]) {
                    return way;
                }
                way |= (long) choice << Grid.belowOf(place);
                at = lead;
            }
            return way;
        }
    }
}
