import java.math.BigInteger;
import java.util.ArrayList;
import java.util.List;

/**
 * The document told once more, as plainly as can be and by other means than the class: rows are counted one by one,
 * sets of changed nodes are gone through backwards, sheets are real arrays and their faults are the machine's own.
 */
final class Model {
    private static final int UNKNOWN = -1, OUTSIDE = -2, STATE = -3, FULL = -4, SPENT = -6, NONE = -9;
    private static final long LOST = Long.MIN_VALUE;

    private static final class Part {
        int kind, one = NONE, two = NONE, low, high, setting, r, floor, roof = 1000000000;
        boolean locked;
    }

    private record Hope(int kind, int mode, int node, int a, int b, int e) {
    }

    private record Score(int[] row, int worst, long sum, long power) {
    }

    final List<Part> parts = new ArrayList<>();
    final List<Hope> hopes = new ArrayList<>();
    private final Object[] rows = new Object[4];
    private int[] plan;
    private List<Integer> steps;
    private int trace, fault, tried;

    // ---- nodes

    private boolean no(int n) {
        return n < 0 || n >= parts.size();
    }

    private int join(int kind, int one, int two, int low, int high, int r) {
        if (parts.size() == 16) {
            return FULL;
        }
        Part p = new Part();
        p.kind = kind;
        p.one = one;
        p.two = two;
        p.low = low;
        p.high = high;
        p.setting = low;
        p.r = r;
        parts.add(p);
        steps = null;
        return parts.size() - 1;
    }

    int source(int r) {
        return r < 1 || r > 1000000 ? OUTSIDE : join(0, NONE, NONE, 0, 0, r);
    }

    int stage(int kind, int of, int low, int high) {
        if (no(of)) {
            return UNKNOWN;
        }
        boolean fits = (kind == 1 || kind == 2) && 1 <= low && low <= 64 && 1 <= high && high <= 64 && low <= high;
        return fits ? join(kind, of, NONE, low, high, 0) : OUTSIDE;
    }

    int choice(int a, int b) {
        return no(a) || no(b) ? UNKNOWN : join(3, a, b, 0, 1, 0);
    }

    int gate(int of) {
        return no(of) ? UNKNOWN : join(4, of, NONE, 0, 1, 0);
    }

    int limits(int n, int floor, int roof) {
        if (no(n)) {
            return UNKNOWN;
        }
        if (floor < 0 || floor > 1000000000 || roof < 0 || roof > 1000000000 || floor > roof) {
            return OUTSIDE;
        }
        parts.get(n).floor = floor;
        parts.get(n).roof = roof;
        steps = null;
        return 1;
    }

    int set(int n, int v) {
        if (no(n)) {
            return UNKNOWN;
        }
        Part p = parts.get(n);
        if (v < p.low || v > p.high) {
            return OUTSIDE;
        }
        if (p.locked) {
            return STATE;
        }
        int was = p.setting;
        p.setting = v;
        steps = null;
        return was;
    }

    int lock(int n, boolean is) {
        if (no(n)) {
            return UNKNOWN;
        }
        int answer = parts.get(n).locked == is ? 0 : 1;
        parts.get(n).locked = is;
        steps = null;
        return answer;
    }

    private int[] now() {
        int[] row = new int[parts.size()];
        for (int n = 0; n < row.length; n++) {
            row[n] = parts.get(n).setting;
        }
        return row;
    }

    /** Upper and lower number of each rate; null: BEYOND. */
    private long[][] ratesOf(int[] row) {
        long[][] rates = new long[row.length][];
        for (int n = 0; n < row.length; n++) {
            Part p = parts.get(n);
            long[] of = p.one < 0 ? null : rates[p.one];
            if (p.kind == 0) {
                rates[n] = new long[] {p.r, 1};
            } else if (p.kind == 1) {
                rates[n] = of == null ? null : reduced(of[0] * row[n], of[1]);
            } else if (p.kind == 2) {
                rates[n] = of == null ? null : reduced(of[0], of[1] * row[n]);
            } else if (p.kind == 3) {
                rates[n] = row[n] == 0 ? of : rates[p.two];
            } else {
                rates[n] = row[n] == 0 ? new long[] {0, 1} : of;
            }
        }
        return rates;
    }

    private static long[] reduced(long up, long down) {
        long g = BigInteger.valueOf(up).gcd(BigInteger.valueOf(down)).longValueExact();
        return up / g > 1000000000 || down / g > 1000000000 ? null : new long[] {up / g, down / g};
    }

    private boolean isWell(int n, long[] rate) {
        if (rate == null) {
            return false;
        }
        Part p = parts.get(n);
        return rate[0] == 0 || !(rate[0] < p.floor * rate[1]) && !(rate[0] > p.roof * rate[1]);
    }

    private boolean areSound(long[][] rates) {
        boolean all = true;
        for (int n = 0; n < rates.length; n++) {
            all &= isWell(n, rates[n]);
        }
        return all;
    }

    private static long powerOf(long[][] rates) {
        long sum = 0;
        for (long[] rate : rates) {
            if (rate == null) {
                return LOST;
            }
            sum += rate[0] / rate[1];
        }
        return sum;
    }

    long rate(int n, int which) {
        if (no(n) || which < 0 || which > 1) {
            return LOST;
        }
        long[] rate = ratesOf(now())[n];
        return rate == null ? LOST : rate[which];
    }

    int about(int n, int what) {
        if (no(n)) {
            return UNKNOWN;
        }
        if (what < 0 || what > 9) {
            return OUTSIDE;
        }
        Part p = parts.get(n);
        int well = isWell(n, ratesOf(now())[n]) ? 1 : 0;
        return new int[] {p.kind, p.one, p.two, p.setting, p.low, p.high, p.locked ? 1 : 0, well, p.floor, p.roof}[what];
    }

    int sound() {
        return areSound(ratesOf(now())) ? 1 : 0;
    }

    long power() {
        return powerOf(ratesOf(now()));
    }

    // ---- wishes, searches

    private int hope(Hope hope) {
        if (hopes.size() == 12) {
            return FULL;
        }
        hopes.add(hope);
        return hopes.size() - 1;
    }

    int wish(int mode, int n, int a, int b, int e) {
        if (mode < 0 || mode > 2 || no(n)) {
            return UNKNOWN;
        }
        boolean fits = a >= 1 && a <= 1000000 && b >= 1 && b <= 1000 && e >= 0 && e <= 999;
        return fits ? hope(new Hope(0, mode, n, a, b, e)) : OUTSIDE;
    }

    int multiple(int mode, int n, int of, int k) {
        if (mode < 0 || mode > 2 || no(n) || no(of)) {
            return UNKNOWN;
        }
        return k < 1 || k > 100 || n == of ? OUTSIDE : hope(new Hope(1, mode, n, of, k, 0));
    }

    private static BigInteger product(long... all) {
        BigInteger p = BigInteger.ONE;
        for (long one : all) {
            p = p.multiply(BigInteger.valueOf(one));
        }
        return p;
    }

    private static int missOf(Hope hope, long[][] rates) {
        long[] rate = rates[hope.node];
        if (hope.kind == 1) {
            long[] other = rates[hope.a];
            boolean is = rate != null && other != null
                && product(rate[0], other[1]).equals(product(hope.b, other[0], rate[1]));
            return is ? 0 : 1000000;
        }
        if (rate == null) {
            return 1000000;
        }
        // (p / q - a / b) / (a / b) * 1000
        BigInteger up = product(rate[0], hope.b).subtract(product(hope.a, rate[1])).abs().multiply(BigInteger.valueOf(1000));
        BigInteger miss = up.divide(product(hope.a, rate[1]));
        return miss.min(BigInteger.valueOf(1000000)).intValueExact();
    }

    int miss(int w) {
        return w < 0 || w >= hopes.size() ? UNKNOWN : missOf(hopes.get(w), ratesOf(now()));
    }

    int wished(int w, int what) {
        if (w < 0 || w >= hopes.size()) {
            return UNKNOWN;
        }
        Hope h = hopes.get(w);
        return what < 0 || what > 5 ? OUTSIDE : new int[] {h.kind, h.mode, h.node, h.a, h.b, h.e}[what];
    }

    private BigInteger rowCount() {
        BigInteger many = BigInteger.ONE;
        for (Part p : parts) {
            many = p.locked ? many : many.multiply(BigInteger.valueOf(p.high - p.low + 1));
        }
        return many;
    }

    private boolean isSpent() {
        return rowCount().compareTo(BigInteger.valueOf(20000)) > 0;
    }

    private int[] firstRow() {
        int[] row = now();
        for (int n = 0; n < row.length; n++) {
            row[n] = parts.get(n).locked ? row[n] : parts.get(n).low;
        }
        return row;
    }

    private boolean next(int[] row) {
        for (int n = row.length - 1; n >= 0; n--) {
            Part p = parts.get(n);
            if (!p.locked && row[n] < p.high) {
                row[n]++;
                return true;
            }
            row[n] = p.locked ? row[n] : p.low;
        }
        return false;
    }

    private Score scoreOf(int[] row, long[][] rates, int mode) {
        int worst = 0;
        long sum = 0;
        for (Hope h : hopes) {
            if (h.mode == mode) {
                int miss = missOf(h, rates);
                if (miss > h.e) {
                    return null;
                }
                worst = Math.max(worst, miss);
                sum += miss;
            }
        }
        return new Score(row.clone(), worst, sum, powerOf(rates));
    }

    private static boolean isBetter(Score s, Score t) {
        if (t == null || s.worst < t.worst) {
            return true;
        }
        return s.worst == t.worst && (s.sum < t.sum || s.sum == t.sum && s.power < t.power);
    }

    int search(int mode) {
        if (mode < 0 || mode > 2) {
            return UNKNOWN;
        }
        if (isSpent()) {
            return SPENT;
        }
        Score best = null;
        int[] row = firstRow();
        tried = 0;
        do {
            tried++;
            long[][] rates = ratesOf(row);
            Score score = areSound(rates) ? scoreOf(row, rates, mode) : null;
            best = score != null && isBetter(score, best) ? score : best;
        } while (next(row));
        plan = best == null ? null : best.row;
        steps = null;
        return best == null ? NONE : best.worst;
    }

    int hopeless(int mode) {
        if (mode < 0 || mode > 2) {
            return UNKNOWN;
        }
        if (isSpent()) {
            return SPENT;
        }
        int met = 0;
        int[] row = firstRow();
        tried = 0;
        do {
            tried++;
            long[][] rates = ratesOf(row);
            if (areSound(rates)) {
                for (int w = 0; w < hopes.size(); w++) {
                    met |= missOf(hopes.get(w), rates) <= hopes.get(w).e ? 1 << w : 0;
                }
            }
        } while (next(row));
        int wrong = 0;
        for (int w = 0; w < hopes.size(); w++) {
            wrong |= hopes.get(w).mode == mode && (met >> w & 1) == 0 ? 1 << w : 0;
        }
        return wrong;
    }

    int planned(int n) {
        if (no(n)) {
            return UNKNOWN;
        }
        if (plan == null) {
            return STATE;
        }
        return n < plan.length ? plan[n] : UNKNOWN;
    }

    int plan(int k, int lane, int i) {
        fault = 0;
        if (k < 0 || k > 3) {
            return UNKNOWN;
        }
        if (lane < 0 || lane > 2) {
            return OUTSIDE;
        }
        int[] row = new int[parts.size()];
        try {
            copyCells(taken(rows[k], lane), i, row);
        } catch (RuntimeException e) {
            return come(e);
        }
        boolean moves = false;
        for (int n = 0; n < row.length; n++) {
            Part p = parts.get(n);
            if (row[n] < p.low || row[n] > p.high) {
                return OUTSIDE;
            }
            moves |= p.locked && row[n] != p.setting;
        }
        if (moves) {
            return STATE;
        }
        plan = row;
        steps = null;
        return row.length;
    }

    int tried() {
        return tried;
    }

    // ---- changes

    private List<Integer> others() {
        List<Integer> others = new ArrayList<>();
        for (int n = 0; n < plan.length; n++) {
            if (plan[n] != parts.get(n).setting) {
                others.add(n);
            }
        }
        return others;
    }

    private boolean isSoundWith(List<Integer> others, int set) {
        int[] row = now();
        for (int j = 0; j < others.size(); j++) {
            row[others.get(j)] = (set >> j & 1) != 0 ? plan[others.get(j)] : row[others.get(j)];
        }
        return areSound(ratesOf(row));
    }

    int change() {
        if (plan == null || plan.length != parts.size()) {
            return STATE;
        }
        List<Integer> others = others();
        for (int n : others) {
            if (parts.get(n).locked) {
                return STATE;
            }
        }
        if (others.size() > 12) {
            return SPENT;
        }
        int last = (1 << others.size()) - 1;
        boolean[] leads = new boolean[last + 1];
        for (int set = last; set >= 0; set--) {
            boolean onward = set == last;
            for (int j = 0; j < others.size(); j++) {
                onward |= (set >> j & 1) == 0 && leads[set | 1 << j];
            }
            leads[set] = onward && (set == 0 || isSoundWith(others, set));
        }
        steps = leads[0] ? firstWay(others, leads) : null;
        return steps == null ? NONE : steps.size();
    }

    private static List<Integer> firstWay(List<Integer> others, boolean[] leads) {
        List<Integer> way = new ArrayList<>();
        int set = 0;
        while (way.size() < others.size()) {
            int j = 0;
            while ((set >> j & 1) != 0 || !leads[set | 1 << j]) {
                j++;
            }
            way.add(others.get(j));
            set |= 1 << j;
        }
        return way;
    }

    int step(int i) {
        return steps == null || i < 0 || i >= steps.size() ? UNKNOWN : steps.get(i);
    }

    int go() {
        if (steps == null) {
            return STATE;
        }
        int many = steps.size();
        for (int n : steps) {
            parts.get(n).setting = plan[n];
        }
        steps = null;
        return many;
    }

    // ---- sheets, parts

    private int come(RuntimeException e) {
        if (e instanceof NullPointerException) {
            fault = 1;
        } else if (e instanceof ClassCastException) {
            fault = 2;
        } else if (e instanceof NegativeArraySizeException) {
            fault = 4;
        } else if (e instanceof IndexOutOfBoundsException) {
            fault = 3;
        } else {
            throw e;
        }
        return -10 - fault;
    }

    private static Object taken(Object row, int lane) {
        return lane == 0 ? (Object) (byte[]) row : lane == 1 ? (Object) (short[]) row : (Object) (int[]) row;
    }

    private static int lengthOf(Object row) {
        if (row == null) {
            throw new NullPointerException();
        }
        return java.lang.reflect.Array.getLength(row);
    }

    private static void copyCells(Object row, int i, int[] into) {
        java.util.Objects.checkFromIndexSize(i, into.length, lengthOf(row));
        for (int n = 0; n < into.length; n++) {
            into[n] = java.lang.reflect.Array.getInt(row, i + n);
        }
    }

    int sheet(int k, int lane, int n) {
        fault = 0;
        if (k < 0 || k > 3) {
            return UNKNOWN;
        }
        if (lane < 0 || lane > 2 || n > 24) {
            return OUTSIDE;
        }
        try {
            rows[k] = lane == 0 ? new byte[n] : lane == 1 ? new short[n] : new int[n];
            return 1;
        } catch (RuntimeException e) {
            return come(e);
        }
    }

    int lose(int k) {
        if (k < 0 || k > 3) {
            return UNKNOWN;
        }
        int had = rows[k] == null ? 0 : 1;
        rows[k] = null;
        return had;
    }

    int put(int k, int i, int v) {
        fault = 0;
        if (k < 0 || k > 3) {
            return UNKNOWN;
        }
        try {
            if (rows[k] instanceof byte[] b) {
                b[i] = (byte) v;
            } else if (rows[k] instanceof short[] s) {
                s[i] = (short) v;
            } else {
                ((int[]) rows[k])[i] = v;
            }
            return 1;
        } catch (RuntimeException e) {
            return come(e);
        }
    }

    long cell(int k, int i, int lane) {
        fault = 0;
        if (k < 0 || k > 3 || lane < 0 || lane > 2) {
            return LOST;
        }
        try {
            int[] one = new int[1];
            copyCells(taken(rows[k], lane), i, one);
            return one[0];
        } catch (RuntimeException e) {
            come(e);
            return LOST;
        }
    }

    int copy(int k, int i, int other, int j, int n) {
        fault = 0;
        if (k < 0 || k > 3 || other < 0 || other > 3) {
            return UNKNOWN;
        }
        try {
            lengthOf(rows[k]);
            lengthOf(rows[other]);
            System.arraycopy(rows[k].getClass().cast(rows[k]), i, rows[k].getClass().cast(rows[other]), j, n);
            return n;
        } catch (RuntimeException e) {
            return come(e);
        }
    }

    private void begin(int body) {
        trace = trace * 31 + body;
    }

    int tell(int n) {
        if (no(n)) {
            return UNKNOWN;
        }
        Part p = parts.get(n);
        begin(p.kind + 1);
        if (p.kind == 4) {
            begin(4);
        }
        return new int[] {p.r, p.setting, -p.setting, 100 + p.setting, 200 + 2 * p.setting}[p.kind];
    }

    int spread(int n) {
        if (no(n)) {
            return UNKNOWN;
        }
        Part p = parts.get(n);
        if (p.kind == 4) {
            begin(7);
        }
        if (p.kind == 4 && p.locked) {
            return 0;
        }
        begin(6);
        return p.high - p.low + 1;
    }

    int as(int n, int kind) {
        fault = 0;
        if (no(n)) {
            return UNKNOWN;
        }
        if (kind < 0 || kind > 4) {
            return OUTSIDE;
        }
        int is = parts.get(n).kind;
        fault = is == kind || is == 4 && kind == 3 ? 0 : 2;
        return fault == 0 ? 1 : -12;
    }

    int trace() {
        return trace;
    }

    int fault() {
        return fault;
    }

    int told(int what) {
        switch (what) {
            case 0:
                return parts.size();
            case 1:
                return hopes.size();
            case 2:
                long[][] rates = ratesOf(now());
                return (int) hopes.stream().filter(h -> missOf(h, rates) <= h.e).count();
            case 3:
                return rowCount().min(BigInteger.valueOf(1000000)).intValueExact();
            case 4:
                return plan == null ? NONE : others().size();
            case 5:
                return steps == null ? NONE : steps.size();
            default:
                return OUTSIDE;
        }
    }
}
