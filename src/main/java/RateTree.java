/**
 * A tree of clocks: sources, multipliers, dividers, choices and gates with limits; wishes for their rates, the
 * best setting for them, and the way from one setting to another.
 */
public final class RateTree {
    public static final int UNKNOWN = -1, OUTSIDE = -2, STATE = -3, FULL = -4, SPENT = -6, NONE = -9;
    public static final long LOST = Long.MIN_VALUE;

    private static final int SOURCE = 0, MULTIPLIER = 1, DIVIDER = 2, CHOICE = 3, GATE = 4;
    private static final int FOR_RATE = 0, FOR_MULTIPLE = 1;
    private static final int BYTES = 0, SHORTS = 1, INTS = 2;
    private static final int NULL = 1, CAST = 2, INDEX = 3, SIZE = 4;

    private static final int MOST_NODES = 16, MOST_WISHES = 12, MODES = 3, SHEETS = 4, MOST_CELLS = 24;
    private static final int MOST_GIVEN = 1000000, MOST_SETTING = 64, MOST_LIMIT = 1000000000;
    private static final int MOST_WISHED = 1000000, MOST_BY = 1000, MOST_ALLOWED = 999, MOST_TIMES = 100;
    private static final int MOST_MISS = 1000000;
    private static final int MOST_ROWS = 20000, MOST_ROWS_TOLD = 1000000;
    private static final int MOST_OTHERS = 12;
    private static final long MOST_IN_RATE = 1000000000L;

    private final Tree tree;
    private final Rates rates;
    private final Wishes wishes;
    private final Search searcher;
    private final Plan aim;
    private final Way way;
    private final Sheet[] sheets;
    private int trail;
    private int lastFault;

    public RateTree() {
        tree = new Tree();
        rates = new Rates();
        wishes = new Wishes();
        searcher = new Search();
        aim = new Plan();
        way = new Way();
        sheets = new Sheet[SHEETS];
        for (int k = 0; k < SHEETS; k++) {
            sheets[k] = new Sheet();
        }
    }

    // ---- 1 nodes

    public int source(int r) {
        if (!isWithin(r, 1, MOST_GIVEN)) {
            return OUTSIDE;
        }
        return grow(SOURCE, NONE, NONE, 0, 0, r);
    }

    public int stage(int kind, int of, int low, int high) {
        if (!tree.has(of)) {
            return UNKNOWN;
        }
        if (kind != MULTIPLIER && kind != DIVIDER) {
            return OUTSIDE;
        }
        if (!isWithin(low, 1, MOST_SETTING) || !isWithin(high, low, MOST_SETTING)) {
            return OUTSIDE;
        }
        return grow(kind, of, NONE, low, high, 0);
    }

    public int choice(int a, int b) {
        if (!tree.has(a) || !tree.has(b)) {
            return UNKNOWN;
        }
        return grow(CHOICE, a, b, 0, 1, 0);
    }

    public int gate(int of) {
        if (!tree.has(of)) {
            return UNKNOWN;
        }
        return grow(GATE, of, NONE, 0, 1, 0);
    }

    public int limits(int n, int floor, int roof) {
        if (!tree.has(n)) {
            return UNKNOWN;
        }
        if (!isWithin(floor, 0, MOST_LIMIT) || !isWithin(roof, floor, MOST_LIMIT)) {
            return OUTSIDE;
        }
        tree.nodes[n].floor = floor;
        tree.nodes[n].roof = roof;
        way.drop();
        return 1;
    }

    public int set(int n, int v) {
        if (!tree.has(n)) {
            return UNKNOWN;
        }
        if (!tree.nodes[n].allows(v)) {
            return OUTSIDE;
        }
        if (tree.nodes[n].locked) {
            return STATE;
        }
        int before = tree.settings[n];
        tree.settings[n] = v;
        way.drop();
        return before;
    }

    public int lock(int n, boolean is) {
        if (!tree.has(n)) {
            return UNKNOWN;
        }
        way.drop();
        if (tree.nodes[n].locked == is) {
            return 0;
        }
        tree.nodes[n].locked = is;
        return 1;
    }

    public long rate(int n, int which) {
        if (!tree.has(n) || !isWithin(which, 0, 1)) {
            return LOST;
        }
        rates.workAll(tree, tree.settings);
        if (rates.isBeyond(n)) {
            return LOST;
        }
        return which == 0 ? rates.upper[n] : rates.lower[n];
    }

    public int about(int n, int what) {
        if (!tree.has(n)) {
            return UNKNOWN;
        }
        Node node = tree.nodes[n];
        switch (what) {
            case 0: return node.kind;
            case 1: return node.first;
            case 2: return node.second;
            case 3: return tree.settings[n];
            case 4: return node.low;
            case 5: return node.high;
            case 6: return node.locked ? 1 : 0;
            case 7: return isWellNow(n) ? 1 : 0;
            case 8: return node.floor;
            case 9: return node.roof;
            default: return OUTSIDE;
        }
    }

    public int sound() {
        return rates.areSound(tree, tree.settings) ? 1 : 0;
    }

    public long power() {
        rates.workAll(tree, tree.settings);
        long sum = 0;
        for (int n = 0; n < tree.count; n++) {
            if (rates.isBeyond(n)) {
                return LOST;
            }
            sum += rates.cut(n);
        }
        return sum;
    }

    // ---- 2 wishes, searches

    public int wish(int mode, int n, int a, int b, int e) {
        if (!isMode(mode) || !tree.has(n)) {
            return UNKNOWN;
        }
        if (!isWithin(a, 1, MOST_WISHED) || !isWithin(b, 1, MOST_BY) || !isWithin(e, 0, MOST_ALLOWED)) {
            return OUTSIDE;
        }
        return wishes.add(FOR_RATE, mode, n, a, b, e);
    }

    public int multiple(int mode, int n, int of, int k) {
        if (!isMode(mode) || !tree.has(n) || !tree.has(of)) {
            return UNKNOWN;
        }
        if (!isWithin(k, 1, MOST_TIMES) || n == of) {
            return OUTSIDE;
        }
        return wishes.add(FOR_MULTIPLE, mode, n, of, k, 0);
    }

    public int miss(int w) {
        if (!wishes.has(w)) {
            return UNKNOWN;
        }
        rates.workAll(tree, tree.settings);
        return wishes.all[w].missIn(rates);
    }

    public int wished(int w, int what) {
        if (!wishes.has(w)) {
            return UNKNOWN;
        }
        Wish wish = wishes.all[w];
        switch (what) {
            case 0: return wish.kind;
            case 1: return wish.mode;
            case 2: return wish.node;
            case 3: return wish.a;
            case 4: return wish.b;
            case 5: return wish.allowed;
            default: return OUTSIDE;
        }
    }

    public int search(int mode) {
        if (!isMode(mode)) {
            return UNKNOWN;
        }
        if (tree.countRows() > MOST_ROWS) {
            return SPENT;
        }
        way.drop();
        if (!searcher.findBest(tree, wishes, mode)) {
            aim.drop();
            return NONE;
        }
        aim.take(searcher.best, 0, tree.count);
        return searcher.bestWorst;
    }

    public int hopeless(int mode) {
        if (!isMode(mode)) {
            return UNKNOWN;
        }
        if (tree.countRows() > MOST_ROWS) {
            return SPENT;
        }
        return searcher.findHopeless(tree, wishes, mode);
    }

    public int planned(int n) {
        if (!tree.has(n)) {
            return UNKNOWN;
        }
        if (!aim.isThere()) {
            return STATE;
        }
        return n < aim.count ? aim.row[n] : UNKNOWN;
    }

    public int plan(int k, int lane, int i) {
        lastFault = 0;
        if (!isSheet(k)) {
            return UNKNOWN;
        }
        if (!isLane(lane)) {
            return OUTSIDE;
        }
        Sheet sheet = sheets[k];
        int wrong = sheet.faultAs(lane, i, tree.count);
        if (wrong != 0) {
            return fail(wrong);
        }
        if (!tree.allowsAll(sheet.cells, i)) {
            return OUTSIDE;
        }
        if (tree.movesLocked(sheet.cells, i, tree.count)) {
            return STATE;
        }
        aim.take(sheet.cells, i, tree.count);
        way.drop();
        return tree.count;
    }

    public int tried() {
        return searcher.rowCount;
    }

    // ---- 3 changes

    public int change() {
        if (!aim.isThere() || aim.count < tree.count || tree.movesLocked(aim.row, 0, aim.count)) {
            return STATE;
        }
        if (tree.countOthers(aim.row, aim.count) > MOST_OTHERS) {
            return SPENT;
        }
        way.find(tree, aim.row);
        return way.count;
    }

    public int step(int i) {
        return way.isFound() && isWithin(i, 0, way.count - 1) ? way.steps[i] : UNKNOWN;
    }

    public int go() {
        if (!way.isFound()) {
            return STATE;
        }
        int many = way.count;
        for (int i = 0; i < many; i++) {
            int n = way.steps[i];
            tree.settings[n] = aim.row[n];
        }
        way.drop();
        return many;
    }

    // ---- 4 sheets, parts

    public int sheet(int k, int lane, int n) {
        lastFault = 0;
        if (!isSheet(k)) {
            return UNKNOWN;
        }
        if (!isLane(lane) || n > MOST_CELLS) {
            return OUTSIDE;
        }
        if (n < 0) {
            return fail(SIZE);
        }
        sheets[k].renew(lane, n);
        return 1;
    }

    public int lose(int k) {
        if (!isSheet(k)) {
            return UNKNOWN;
        }
        if (sheets[k].isNothing()) {
            return 0;
        }
        sheets[k].drop();
        return 1;
    }

    public int put(int k, int i, int v) {
        lastFault = 0;
        if (!isSheet(k)) {
            return UNKNOWN;
        }
        Sheet sheet = sheets[k];
        if (sheet.isNothing()) {
            return fail(NULL);
        }
        if (!sheet.hasCells(i, 1)) {
            return fail(INDEX);
        }
        sheet.cells[i] = sheet.cutToLane(v);
        return 1;
    }

    public long cell(int k, int i, int lane) {
        lastFault = 0;
        if (!isSheet(k) || !isLane(lane)) {
            return LOST;
        }
        lastFault = sheets[k].faultAs(lane, i, 1);
        return lastFault == 0 ? sheets[k].cells[i] : LOST;
    }

    public int copy(int k, int i, int other, int j, int n) {
        lastFault = 0;
        if (!isSheet(k) || !isSheet(other)) {
            return UNKNOWN;
        }
        Sheet from = sheets[k];
        Sheet to = sheets[other];
        if (from.isNothing() || to.isNothing()) {
            return fail(NULL);
        }
        if (from.lane != to.lane) {
            return fail(CAST);
        }
        if (!from.hasCells(i, n) || !to.hasCells(j, n)) {
            return fail(INDEX);
        }
        System.arraycopy(from.cells, i, to.cells, j, n);
        return n;
    }

    public int tell(int n) {
        if (!tree.has(n)) {
            return UNKNOWN;
        }
        switch (tree.nodes[n].kind) {
            case SOURCE:
                leave(1);
                return tree.nodes[n].given;
            case MULTIPLIER:
                leave(2);
                return tree.settings[n];
            case DIVIDER:
                leave(3);
                return -tree.settings[n];
            case CHOICE:
                return tellChoice(n);
            default:
                leave(5);
                return 2 * tellChoice(n);
        }
    }

    public int spread(int n) {
        if (!tree.has(n)) {
            return UNKNOWN;
        }
        Node node = tree.nodes[n];
        if (node.kind != GATE) {
            return spreadLent(node);
        }
        leave(7);
        return node.locked ? 0 : spreadLent(node);
    }

    public int as(int n, int kind) {
        lastFault = 0;
        if (!tree.has(n)) {
            return UNKNOWN;
        }
        if (!isWithin(kind, SOURCE, GATE)) {
            return OUTSIDE;
        }
        return tree.nodes[n].isOf(kind) ? 1 : fail(CAST);
    }

    public int trace() {
        return trail;
    }

    public int fault() {
        return lastFault;
    }

    public int told(int what) {
        switch (what) {
            case 0: return tree.count;
            case 1: return wishes.count;
            case 2: return countMet();
            case 3: return tree.countRows();
            case 4: return aim.isThere() ? tree.countOthers(aim.row, aim.count) : NONE;
            case 5: return way.count;
            default: return OUTSIDE;
        }
    }

    // ---- what the calls share

    private static boolean isWithin(int v, int least, int most) {
        return v >= least && v <= most;
    }

    private static boolean isMode(int mode) {
        return isWithin(mode, 0, MODES - 1);
    }

    private static boolean isSheet(int k) {
        return isWithin(k, 0, SHEETS - 1);
    }

    private static boolean isLane(int lane) {
        return isWithin(lane, BYTES, INTS);
    }

    private int grow(int kind, int first, int second, int low, int high, int given) {
        int n = tree.add(kind, first, second, low, high, given);
        if (n >= 0) {
            way.drop();
        }
        return n;
    }

    private boolean isWellNow(int n) {
        rates.workAll(tree, tree.settings);
        return rates.isWell(tree.nodes[n], n);
    }

    private int countMet() {
        rates.workAll(tree, tree.settings);
        int many = 0;
        for (int w = 0; w < wishes.count; w++) {
            Wish wish = wishes.all[w];
            if (wish.missIn(rates) <= wish.allowed) {
                many++;
            }
        }
        return many;
    }

    private int fail(int which) {
        lastFault = which;
        return -10 - which;
    }

    private void leave(int body) {
        trail = 31 * trail + body;
    }

    private int tellChoice(int n) {
        leave(4);
        return 100 + tree.settings[n];
    }

    private int spreadLent(Node node) {
        leave(6);
        return node.countSettings();
    }

    /** One node, but for its setting: settings stand in rows, as a search and a change try others. */
    private static final class Node {
        int kind;
        int first;
        int second;
        int low;
        int high;
        int given;
        int floor;
        int roof = MOST_LIMIT;
        boolean locked;

        boolean allows(int v) {
            return v >= low && v <= high;
        }

        int countSettings() {
            return high - low + 1;
        }

        boolean isOf(int asked) {
            return kind == asked || kind == GATE && asked == CHOICE;
        }
    }

    /** All nodes, and the row of their settings as they are. */
    private static final class Tree {
        final Node[] nodes = new Node[MOST_NODES];
        final int[] settings = new int[MOST_NODES];
        int count;

        Tree() {
            for (int n = 0; n < MOST_NODES; n++) {
                nodes[n] = new Node();
            }
        }

        boolean has(int n) {
            return n >= 0 && n < count;
        }

        int add(int kind, int first, int second, int low, int high, int given) {
            if (count >= MOST_NODES) {
                return FULL;
            }
            Node node = nodes[count];
            node.kind = kind;
            node.first = first;
            node.second = second;
            node.low = low;
            node.high = high;
            node.given = given;
            settings[count] = low;
            return count++;
        }

        /** How many rows a search has; held down at every node, so that it can't wrap. */
        int countRows() {
            int many = 1;
            for (int n = 0; n < count; n++) {
                if (!nodes[n].locked) {
                    many = Math.min(many * nodes[n].countSettings(), MOST_ROWS_TOLD);
                }
            }
            return many;
        }

        boolean allowsAll(int[] row, int from) {
            for (int n = 0; n < count; n++) {
                if (!nodes[n].allows(row[from + n])) {
                    return false;
                }
            }
            return true;
        }

        /** Whether one of the first nodes is locked and has another setting in the row. */
        boolean movesLocked(int[] row, int from, int many) {
            for (int n = 0; n < many; n++) {
                if (nodes[n].locked && row[from + n] != settings[n]) {
                    return true;
                }
            }
            return false;
        }

        int countOthers(int[] row, int many) {
            int others = 0;
            for (int n = 0; n < many; n++) {
                if (row[n] != settings[n]) {
                    others++;
                }
            }
            return others;
        }
    }

    /** The rates that a row of settings gives, each in least terms; a lower number of 0 marks one that is BEYOND. */
    private static final class Rates {
        final long[] upper = new long[MOST_NODES];
        final long[] lower = new long[MOST_NODES];

        void workAll(Tree tree, int[] row) {
            for (int n = 0; n < tree.count; n++) {
                work(tree.nodes[n], n, row[n]);
            }
        }

        /** Works out all rates up to the first that is not well. */
        boolean areSound(Tree tree, int[] row) {
            for (int n = 0; n < tree.count; n++) {
                work(tree.nodes[n], n, row[n]);
                if (!isWell(tree.nodes[n], n)) {
                    return false;
                }
            }
            return true;
        }

        /** Works out the rate of node n; those of lesser numbers must stand. */
        void work(Node node, int n, int setting) {
            switch (node.kind) {
                case MULTIPLIER:
                    multiply(n, node.first, setting);
                    break;
                case DIVIDER:
                    divide(n, node.first, setting);
                    break;
                case CHOICE:
                    pass(n, setting == 0 ? node.first : node.second);
                    break;
                case GATE:
                    if (setting == 0) {
                        keep(n, 0, 1);
                    } else {
                        pass(n, node.first);
                    }
                    break;
                default:
                    keep(n, node.given, 1);
                    break;
            }
        }

        // Upper and lower number share no divisor, so what there is to cut comes from the setting alone. Of a rate that
        // is BEYOND both numbers are 0, and stay so.
        private void multiply(int n, int of, int setting) {
            long shared = sharedBy(lower[of], setting);
            keep(n, upper[of] * (setting / shared), lower[of] / shared);
        }

        private void divide(int n, int of, int setting) {
            long shared = sharedBy(upper[of], setting);
            keep(n, upper[of] / shared, lower[of] * (setting / shared));
        }

        private void pass(int n, int of) {
            keep(n, upper[of], lower[of]);
        }

        private void keep(int n, long above, long below) {
            boolean isBeyond = above > MOST_IN_RATE || below > MOST_IN_RATE;
            upper[n] = isBeyond ? 0 : above;
            lower[n] = isBeyond ? 0 : below;
        }

        boolean isBeyond(int n) {
            return lower[n] == 0;
        }

        boolean isWell(Node node, int n) {
            if (isBeyond(n)) {
                return false;
            }
            return upper[n] == 0 || upper[n] >= node.floor * lower[n] && upper[n] <= node.roof * lower[n];
        }

        long cut(int n) {
            return lower[n] == 0 ? 0 : upper[n] / lower[n];
        }

        /** Both in least terms: crosswise products would not fit into a long. */
        boolean isMultiple(int n, int of, int times) {
            if (isBeyond(n) || isBeyond(of)) {
                return false;
            }
            long shared = sharedBy(lower[of], times);
            return upper[n] == upper[of] * (times / shared) && lower[n] == lower[of] / shared;
        }

        /** The greatest common divisor, 1 at least, so that it may always divide. */
        private static long sharedBy(long a, long b) {
            long one = a;
            long other = b;
            for (int i = 0; i < 100 && other != 0; i++) {
                long rest = one % other;
                one = other;
                other = rest;
            }
            return one > 0 ? one : 1;
        }
    }

    private static final class Wish {
        int kind;
        int mode;
        int node;
        /** The upper number of the rate, or the other node. */
        int a;
        /** The lower number of the rate, or how many times. */
        int b;
        int allowed;

        int missIn(Rates rates) {
            if (kind == FOR_MULTIPLE) {
                return rates.isMultiple(node, a, b) ? 0 : MOST_MISS;
            }
            long whole = rates.lower[node] * a;
            if (whole == 0) {
                return MOST_MISS;
            }
            long apart = Math.abs(rates.upper[node] * b - whole);
            return (int) Math.min(apart * 1000 / whole, MOST_MISS);
        }

        /** The node whose rate is the last that the miss waits for. */
        int lastNode() {
            return kind == FOR_MULTIPLE ? Math.max(node, a) : node;
        }
    }

    private static final class Wishes {
        final Wish[] all = new Wish[MOST_WISHES];
        int count;

        Wishes() {
            for (int w = 0; w < MOST_WISHES; w++) {
                all[w] = new Wish();
            }
        }

        boolean has(int w) {
            return w >= 0 && w < count;
        }

        int add(int kind, int mode, int node, int a, int b, int allowed) {
            if (count >= MOST_WISHES) {
                return FULL;
            }
            Wish wish = all[count];
            wish.kind = kind;
            wish.mode = mode;
            wish.node = node;
            wish.a = a;
            wish.b = b;
            wish.allowed = allowed;
            return count++;
        }
    }

    /**
     * Goes through all rows of settings, node by node, and leaves out at once what a node that is not well, or a
     * wish that is not met, rules out. What is known ahead of node n stands at n in unmet, worst, sum and power.
     */
    private static final class Search {
        int rowCount;
        final int[] best = new int[MOST_NODES];
        int bestWorst;

        private final Rates rates = new Rates();
        private final int[] row = new int[MOST_NODES];
        /** The wishes of the mode by their last nodes: those of node n stand from starts[n] to starts[n + 1]. */
        private final int[] order = new int[MOST_WISHES];
        private final int[] starts = new int[MOST_NODES + 1];
        private final int[] unmet = new int[MOST_NODES + 1];
        private final int[] worst = new int[MOST_NODES + 1];
        private final int[] sum = new int[MOST_NODES + 1];
        private final long[] power = new long[MOST_NODES + 1];
        private boolean isForBest;
        private boolean isFound;
        private int bestSum;
        private long bestPower;
        private int neverMet;

        boolean findBest(Tree tree, Wishes wishes, int mode) {
            begin(tree, wishes, mode);
            isForBest = true;
            isFound = false;
            bestWorst = MOST_MISS;
            tryFrom(tree, wishes, 0);
            return isFound;
        }

        int findHopeless(Tree tree, Wishes wishes, int mode) {
            begin(tree, wishes, mode);
            isForBest = false;
            tryFrom(tree, wishes, 0);
            return neverMet;
        }

        private void begin(Tree tree, Wishes wishes, int mode) {
            rowCount = tree.countRows();
            neverMet = 0;
            int many = 0;
            for (int n = 0; n < tree.count; n++) {
                starts[n] = many;
                for (int w = 0; w < wishes.count; w++) {
                    Wish wish = wishes.all[w];
                    if (wish.mode == mode && wish.lastNode() == n) {
                        order[many++] = w;
                        neverMet |= 1 << w;
                    }
                }
            }
            starts[tree.count] = many;
        }

        private void tryFrom(Tree tree, Wishes wishes, int n) {
            if (n >= tree.count) {
                arrive(n);
                return;
            }
            Node node = tree.nodes[n];
            int least = node.locked ? tree.settings[n] : node.low;
            int most = node.locked ? tree.settings[n] : node.high;
            for (int v = least; v <= most; v++) {
                row[n] = v;
                rates.work(node, n, v);
                if (rates.isWell(node, n)) {
                    weigh(wishes, n);
                    if (isOfUse(n + 1)) {
                        tryFrom(tree, wishes, n + 1);
                    }
                }
            }
        }

        private void weigh(Wishes wishes, int n) {
            int bits = unmet[n];
            int most = worst[n];
            int all = sum[n];
            for (int i = starts[n]; i < starts[n + 1]; i++) {
                Wish wish = wishes.all[order[i]];
                int missed = wish.missIn(rates);
                if (missed > wish.allowed) {
                    bits |= 1 << order[i];
                }
                most = Math.max(most, missed);
                all += missed;
            }
            unmet[n + 1] = bits;
            worst[n + 1] = most;
            sum[n + 1] = all;
            power[n + 1] = power[n] + rates.cut(n);
        }

        /** Whether a row that begins as this one could change what is found. */
        private boolean isOfUse(int n) {
            return isForBest ? unmet[n] == 0 && worst[n] <= bestWorst : neverMet != 0;
        }

        private void arrive(int n) {
            if (!isForBest) {
                neverMet &= unmet[n];
            } else if (!isFound || isBetter(n)) {
                isFound = true;
                bestWorst = worst[n];
                bestSum = sum[n];
                bestPower = power[n];
                System.arraycopy(row, 0, best, 0, n);
            }
        }

        private boolean isBetter(int n) {
            if (worst[n] != bestWorst) {
                return worst[n] < bestWorst;
            }
            if (sum[n] != bestSum) {
                return sum[n] < bestSum;
            }
            return power[n] < bestPower;
        }
    }

    /** A row of settings for the nodes that there were when it came. */
    private static final class Plan {
        final int[] row = new int[MOST_NODES];
        int count = NONE;

        boolean isThere() {
            return count >= 0;
        }

        void drop() {
            count = NONE;
        }

        void take(int[] cells, int from, int many) {
            System.arraycopy(cells, from, row, 0, many);
            count = many;
        }
    }

    /** The steps of the change found latest; count is NONE if there is none. */
    private static final class Way {
        final int[] steps = new int[MOST_OTHERS];
        int count = NONE;

        private final Rates rates = new Rates();
        private final int[] row = new int[MOST_NODES];
        private final int[] others = new int[MOST_OTHERS];
        private int otherCount;
        /** A bit for each set of changed nodes from which the end can't be reached, so that none is tried twice. */
        private final long[] dead = new long[(1 << MOST_OTHERS) / 64];

        boolean isFound() {
            return count >= 0;
        }

        void drop() {
            count = NONE;
        }

        /** There must be a setting for each node in the plan, and no more others than may be. */
        void find(Tree tree, int[] plan) {
            otherCount = 0;
            for (int n = 0; n < tree.count; n++) {
                row[n] = tree.settings[n];
                if (plan[n] != row[n] && otherCount < MOST_OTHERS) {
                    others[otherCount++] = n;
                }
            }
            for (int i = 0; i < dead.length; i++) {
                dead[i] = 0;
            }
            count = reaches(tree, plan, 0, 0) ? otherCount : NONE;
        }

        /** Whether the end can be reached with the nodes in done changed, in so many steps. */
        private boolean reaches(Tree tree, int[] plan, int done, int many) {
            if ((dead[done >> 6] >> (done & 63) & 1) != 0) {
                return false;
            }
            if (many == 0 || rates.areSound(tree, row)) {
                if (many >= otherCount) {
                    return true;
                }
                for (int j = 0; j < otherCount; j++) {
                    if ((done >> j & 1) == 0 && reachesBy(tree, plan, done, many, j)) {
                        return true;
                    }
                }
            }
            dead[done >> 6] |= 1L << (done & 63);
            return false;
        }

        private boolean reachesBy(Tree tree, int[] plan, int done, int many, int j) {
            int n = others[j];
            int before = row[n];
            row[n] = plan[n];
            boolean isReached = reaches(tree, plan, done | 1 << j, many + 1);
            row[n] = before;
            if (isReached) {
                steps[many] = n;
            }
            return isReached;
        }
    }

    /** A row of cells of a lane, or nothing; the cells are kept and used again. */
    private static final class Sheet {
        final int[] cells = new int[MOST_CELLS];
        int lane = NONE;
        private int length;

        boolean isNothing() {
            return lane == NONE;
        }

        void drop() {
            lane = NONE;
        }

        void renew(int newLane, int newLength) {
            lane = newLane;
            length = newLength;
            for (int i = 0; i < cells.length; i++) {
                cells[i] = 0;
            }
        }

        boolean hasCells(int from, int many) {
            return from >= 0 && many >= 0 && from <= length - many;
        }

        int cutToLane(int v) {
            if (lane == BYTES) {
                return (byte) v;
            }
            return lane == SHORTS ? (short) v : v;
        }

        /** The fault that some cells, taken as a row of a lane, come to; 0: none. */
        int faultAs(int asked, int from, int many) {
            if (isNothing()) {
                return NULL;
            }
            if (lane != asked) {
                return CAST;
            }
            return hasCells(from, many) ? 0 : INDEX;
        }
    }
}
