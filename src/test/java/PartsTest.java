/** Promises 30 to 33 and 35: telling, spread, kinds, trace, and what is told. */
public final class PartsTest {
    private static int trace;

    public static void main(String[] args) {
        tell();
        spread();
        as();
        traceWraps();
        told();
        Due.end();
    }

    private static RateTree kinds() {
        RateTree x = new RateTree();
        x.source(77);
        x.stage(1, 0, 5, 9);
        x.stage(2, 0, 3, 64);
        x.choice(0, 1);
        x.gate(0);
        return x;
    }

    private static void left(String what, RateTree x, int... bodies) {
        for (int body : bodies) {
            trace = 31 * trace + body;
        }
        Due.due(what, x.trace(), trace);
    }

    private static void tell() {
        RateTree x = kinds();
        trace = 0;
        Due.due("30 unknown", x.tell(5), RateTree.UNKNOWN);
        Due.due("30 unknown", x.tell(-1), RateTree.UNKNOWN);
        left("33 nothing left", x);
        Due.due("30 source", x.tell(0), 77);
        left("33 source", x, 1);
        Due.due("30 multiplier", x.tell(1), 5);
        left("33 multiplier", x, 2);
        Due.due("30 divider", x.tell(2), -3);
        left("33 divider", x, 3);
        Due.due("30 choice", x.tell(3), 100);
        left("33 choice", x, 4);
        Due.due("30 gate", x.tell(4), 200);
        left("33 gate", x, 5, 4);
        x.set(1, 9);
        x.set(2, 64);
        x.set(3, 1);
        x.set(4, 1);
        Due.due("30 multiplier", x.tell(1), 9);
        Due.due("30 divider", x.tell(2), -64);
        Due.due("30 choice", x.tell(3), 101);
        Due.due("30 gate", x.tell(4), 202);
        left("33 all", x, 2, 3, 4, 5, 4);
        x.lock(4, true);
        Due.due("30 a locked gate", x.tell(4), 202);
        left("33 a locked gate", x, 5, 4);
    }

    private static void spread() {
        RateTree x = kinds();
        trace = 0;
        Due.due("31 unknown", x.spread(5), RateTree.UNKNOWN);
        Due.due("31 unknown", x.spread(-1), RateTree.UNKNOWN);
        left("33 nothing left", x);
        Due.due("31 source", x.spread(0), 1);
        left("33 source", x, 6);
        Due.due("31 multiplier", x.spread(1), 5);
        left("33 multiplier", x, 6);
        Due.due("31 divider", x.spread(2), 62);
        left("33 divider", x, 6);
        Due.due("31 choice", x.spread(3), 2);
        left("33 choice", x, 6);
        Due.due("31 gate", x.spread(4), 2);
        left("33 gate", x, 7, 6);
        for (int n = 0; n < 5; n++) {
            x.lock(n, true);
        }
        Due.due("31 a locked multiplier", x.spread(1), 5);
        Due.due("31 a locked choice", x.spread(3), 2);
        left("33 locked ones", x, 6, 6);
        Due.due("31 a locked gate", x.spread(4), 0);
        left("33 a locked gate", x, 7);
    }

    private static void as() {
        RateTree x = kinds();
        Due.due("32 UNKNOWN ahead of OUTSIDE", x.as(5, 5), RateTree.UNKNOWN);
        Due.due("32 unknown", x.as(-1, 0), RateTree.UNKNOWN);
        for (int n = 0; n < 5; n++) {
            for (int kind = 0; kind < 5; kind++) {
                boolean is = n == kind || n == 4 && kind == 3;
                Due.due("32 as(" + n + ", " + kind + ")", x.as(n, kind), is ? 1 : -12);
                Due.due("34 of it", x.fault(), is ? 0 : 2);
            }
            x.as(n, (n + 1) % 3);
            Due.due("32 kind 5", x.as(n, 5), RateTree.OUTSIDE);
            Due.due("34 refused", x.fault(), 0);
            Due.due("32 kind -1", x.as(n, -1), RateTree.OUTSIDE);
        }
        Due.due("33 no body begins", x.trace(), 0);
    }

    private static void traceWraps() {
        RateTree x = kinds();
        trace = 0;
        for (int i = 0; i < 50; i++) {
            x.tell(i % 5);
            x.spread(4 - i % 5);
            int[][] told = {{1}, {2}, {3}, {4}, {5, 4}};
            left("33 told", x, joined(told[i % 5], i % 5 == 0 ? new int[] {7, 6} : new int[] {6}));
        }
    }

    private static int[] joined(int[] one, int[] other) {
        int[] both = new int[one.length + other.length];
        System.arraycopy(one, 0, both, 0, one.length);
        System.arraycopy(other, 0, both, one.length, other.length);
        return both;
    }

    private static void told() {
        RateTree x = kinds();
        Due.due("35 what -1", x.told(-1), RateTree.OUTSIDE);
        Due.due("35 what 6", x.told(6), RateTree.OUTSIDE);
        Due.due("35 nodes", x.told(0), 5);
        Due.due("35 rows", x.told(3), 5 * 62 * 2 * 2);
        x.lock(2, true);
        Due.due("35 rows, one locked", x.told(3), 20);
        x.lock(2, false);
        x.stage(1, 0, 1, 64);
        Due.due("35 rows", x.told(3), 5 * 62 * 2 * 2 * 64);
        x.stage(1, 0, 1, 12);
        Due.due("35 rows", x.told(3), 952320);
        x.gate(0);
        Due.due("35 rows at most", x.told(3), 1000000);
        for (int n = 8; n < 16; n++) {
            x.stage(1, 0, 1, 64);
        }
        Due.due("35 rows at most, far above", x.told(3), 1000000);
        Due.due("35 wishes", x.told(1), 0);
        x.wish(0, 0, 77, 1, 0);
        x.wish(1, 0, 70, 1, 100);
        x.wish(2, 0, 70, 1, 99);
        x.multiple(2, 1, 0, 5);
        x.multiple(2, 1, 0, 6);
        Due.due("35 wishes", x.told(1), 5);
        Due.due("35 met, of all modes", x.told(2), 3);
        Due.due("35 no plan", x.told(4), RateTree.NONE);
        Due.due("35 no change", x.told(5), RateTree.NONE);
    }
}
