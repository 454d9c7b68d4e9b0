/** Promises 1 to 12: nodes, their limits, settings and rates. */
public final class NodesTest {
    private static final long LOST = RateTree.LOST;

    public static void main(String[] args) {
        newObject();
        source();
        stage();
        choice();
        gate();
        full();
        limits();
        set();
        lock();
        ratesInLeastTerms();
        ratesBeyond();
        ratesBeyondBelow();
        about();
        sound();
        power();
        Due.end();
    }

    private static void newObject() {
        RateTree x = new RateTree();
        Due.due("1 told(0)", x.told(0), 0);
        Due.due("1 told(1)", x.told(1), 0);
        Due.due("1 told(2)", x.told(2), 0);
        Due.due("1 told(3)", x.told(3), 1);
        Due.due("1 told(4)", x.told(4), RateTree.NONE);
        Due.due("1 told(5)", x.told(5), RateTree.NONE);
        Due.due("1 trace()", x.trace(), 0);
        Due.due("1 fault()", x.fault(), 0);
        Due.due("1 tried()", x.tried(), 0);
        Due.due("1 change()", x.change(), RateTree.STATE);
        Due.due("1 go()", x.go(), RateTree.STATE);
        Due.due("1 step(0)", x.step(0), RateTree.UNKNOWN);
        Due.due("1 miss(0)", x.miss(0), RateTree.UNKNOWN);
        for (int k = 0; k < 4; k++) {
            Due.due("1 lose", x.lose(k), 0);
        }
        new RateTree().source(1);
        Due.due("1 objects share nothing", x.told(0), 0);
    }

    private static void source() {
        RateTree x = new RateTree();
        Due.due("2 r 0", x.source(0), RateTree.OUTSIDE);
        Due.due("2 r -1", x.source(-1), RateTree.OUTSIDE);
        Due.due("2 r 1000001", x.source(1000001), RateTree.OUTSIDE);
        Due.due("2 r least", x.source(Integer.MIN_VALUE), RateTree.OUTSIDE);
        Due.due("2 refused ones are not there", x.told(0), 0);
        Due.due("2 r 1", x.source(1), 0);
        Due.due("2 r 1000000", x.source(1000000), 1);
        Due.due("2 rate", x.rate(0, 0), 1);
        Due.due("2 rate", x.rate(1, 0), 1000000);
        Due.due("2 rate, lower", x.rate(1, 1), 1);
    }

    private static void stage() {
        RateTree x = new RateTree();
        x.source(60);
        Due.due("3 of none", x.stage(1, 1, 1, 2), RateTree.UNKNOWN);
        Due.due("3 of -1", x.stage(1, -1, 1, 2), RateTree.UNKNOWN);
        Due.due("3 UNKNOWN ahead of OUTSIDE", x.stage(9, 1, 0, 99), RateTree.UNKNOWN);
        Due.due("3 kind 0", x.stage(0, 0, 1, 2), RateTree.OUTSIDE);
        Due.due("3 kind 3", x.stage(3, 0, 1, 2), RateTree.OUTSIDE);
        Due.due("3 low 0", x.stage(1, 0, 0, 2), RateTree.OUTSIDE);
        Due.due("3 high 65", x.stage(1, 0, 1, 65), RateTree.OUTSIDE);
        Due.due("3 low 65, high 65", x.stage(1, 0, 65, 65), RateTree.OUTSIDE);
        Due.due("3 low above high", x.stage(2, 0, 3, 2), RateTree.OUTSIDE);
        Due.due("3 both 0", x.stage(2, 0, 0, 0), RateTree.OUTSIDE);
        Due.due("3 multiplier", x.stage(1, 0, 64, 64), 1);
        Due.due("3 divider", x.stage(2, 0, 4, 64), 2);
        Due.due("3 multiplier's least setting", x.rate(1, 0), 3840);
        Due.due("3 divider's least setting", x.rate(2, 0), 15);
        Due.due("3 a stage of a stage", x.stage(2, 2, 1, 1), 3);
        Due.due("3 its rate", x.rate(3, 0), 15);
    }

    private static void choice() {
        RateTree x = new RateTree();
        x.source(7);
        x.source(9);
        Due.due("4 first unknown", x.choice(2, 0), RateTree.UNKNOWN);
        Due.due("4 second unknown", x.choice(0, 2), RateTree.UNKNOWN);
        Due.due("4 negative", x.choice(-1, 0), RateTree.UNKNOWN);
        Due.due("4 two", x.choice(0, 1), 2);
        Due.due("4 one twice", x.choice(1, 1), 3);
        Due.due("4 first", x.rate(2, 0), 7);
        Due.due("4 set", x.set(2, 1), 0);
        Due.due("4 second", x.rate(2, 0), 9);
        Due.due("4 set back", x.set(2, 0), 1);
        Due.due("4 first again", x.rate(2, 0), 7);
    }

    private static void gate() {
        RateTree x = new RateTree();
        Due.due("5 unknown", x.gate(0), RateTree.UNKNOWN);
        x.source(7);
        Due.due("5 negative", x.gate(-1), RateTree.UNKNOWN);
        Due.due("5 itself", x.gate(1), RateTree.UNKNOWN);
        Due.due("5 gate", x.gate(0), 1);
        Due.due("5 shut", x.rate(1, 0), 0);
        Due.due("5 shut, lower", x.rate(1, 1), 1);
        Due.due("5 set", x.set(1, 1), 0);
        Due.due("5 open", x.rate(1, 0), 7);
        Due.due("5 set 2", x.set(1, 2), RateTree.OUTSIDE);
    }

    private static void full() {
        RateTree x = new RateTree();
        for (int n = 0; n < 16; n++) {
            Due.due("2 to 16 nodes", x.source(n + 1), n);
        }
        Due.due("2 FULL", x.source(1), RateTree.FULL);
        Due.due("2 OUTSIDE ahead of FULL", x.source(0), RateTree.OUTSIDE);
        Due.due("3 FULL", x.stage(1, 0, 1, 1), RateTree.FULL);
        Due.due("3 OUTSIDE ahead of FULL", x.stage(1, 0, 1, 65), RateTree.OUTSIDE);
        Due.due("4 FULL", x.choice(0, 15), RateTree.FULL);
        Due.due("4 UNKNOWN ahead of FULL", x.choice(0, 16), RateTree.UNKNOWN);
        Due.due("5 FULL", x.gate(15), RateTree.FULL);
        Due.due("5 UNKNOWN ahead of FULL", x.gate(16), RateTree.UNKNOWN);
        Due.due("2 still 16", x.told(0), 16);
        Due.due("2 the last one", x.rate(15, 0), 16);
    }

    private static void limits() {
        RateTree x = new RateTree();
        Due.due("6 unknown", x.limits(0, 0, 1), RateTree.UNKNOWN);
        x.source(10);
        Due.due("6 UNKNOWN ahead of OUTSIDE", x.limits(1, 5, 1), RateTree.UNKNOWN);
        Due.due("6 floor -1", x.limits(0, -1, 5), RateTree.OUTSIDE);
        Due.due("6 roof -1", x.limits(0, 0, -1), RateTree.OUTSIDE);
        Due.due("6 roof above all", x.limits(0, 0, 1000000001), RateTree.OUTSIDE);
        Due.due("6 floor above roof", x.limits(0, 6, 5), RateTree.OUTSIDE);
        Due.due("6 floor stays", x.about(0, 8), 0);
        Due.due("6 roof stays", x.about(0, 9), 1000000000);
        Due.due("6 the widest", x.limits(0, 0, 1000000000), 1);
        Due.due("6 one number", x.limits(0, 10, 10), 1);
        Due.due("6 floor", x.about(0, 8), 10);
        Due.due("6 roof", x.about(0, 9), 10);
        Due.due("6 at both", x.about(0, 7), 1);
        x.limits(0, 11, 20);
        Due.due("6 below the floor", x.about(0, 7), 0);
        x.limits(0, 0, 9);
        Due.due("6 above the roof", x.about(0, 7), 0);
        Due.due("6 highest floor", x.limits(0, 1000000000, 1000000000), 1);
        x.gate(0);
        x.limits(1, 5, 10);
        Due.due("6 0 is well with any floor", x.about(1, 7), 1);
        x.limits(1, 0, 0);
        x.set(1, 1);
        Due.due("6 above roof 0", x.about(1, 7), 0);
    }

    private static void set() {
        RateTree x = new RateTree();
        Due.due("7 unknown", x.set(0, 0), RateTree.UNKNOWN);
        x.source(10);
        x.stage(1, 0, 3, 5);
        Due.due("7 UNKNOWN ahead of OUTSIDE", x.set(2, 99), RateTree.UNKNOWN);
        Due.due("7 a source's 0", x.set(0, 0), 0);
        Due.due("7 a source's 1", x.set(0, 1), RateTree.OUTSIDE);
        Due.due("7 below low", x.set(1, 2), RateTree.OUTSIDE);
        Due.due("7 above high", x.set(1, 6), RateTree.OUTSIDE);
        Due.due("7 high", x.set(1, 5), 3);
        Due.due("7 rate", x.rate(1, 0), 50);
        Due.due("7 low", x.set(1, 3), 5);
        Due.due("7 the same", x.set(1, 3), 3);
        x.lock(1, true);
        Due.due("7 LOCKED", x.set(1, 4), RateTree.STATE);
        Due.due("7 LOCKED, the same", x.set(1, 3), RateTree.STATE);
        Due.due("7 OUTSIDE ahead of STATE", x.set(1, 6), RateTree.OUTSIDE);
        Due.due("7 it stays", x.about(1, 3), 3);
        x.lock(1, false);
        Due.due("7 free again", x.set(1, 4), 3);
    }

    private static void lock() {
        RateTree x = new RateTree();
        Due.due("8 unknown", x.lock(0, true), RateTree.UNKNOWN);
        x.source(1);
        Due.due("8 unknown", x.lock(1, false), RateTree.UNKNOWN);
        Due.due("8 was free", x.lock(0, false), 0);
        Due.due("8 locked", x.lock(0, true), 1);
        Due.due("8 is", x.about(0, 6), 1);
        Due.due("8 was so", x.lock(0, true), 0);
        Due.due("8 free", x.lock(0, false), 1);
        Due.due("8 is not", x.about(0, 6), 0);
    }

    private static void ratesInLeastTerms() {
        RateTree x = new RateTree();
        Due.due("9 unknown", x.rate(0, 0), LOST);
        x.source(12);
        x.stage(2, 0, 8, 8);
        x.stage(1, 1, 6, 6);
        x.stage(2, 2, 27, 27);
        x.gate(3);
        x.stage(2, 4, 7, 7);
        x.stage(1, 5, 7, 7);
        Due.due("9 which -1", x.rate(0, -1), LOST);
        Due.due("9 which 2", x.rate(0, 2), LOST);
        Due.due("9 unknown", x.rate(7, 0), LOST);
        long[] want = {12, 1, 3, 2, 9, 1, 1, 3, 0, 1, 0, 1, 0, 1};
        for (int n = 0; n < 7; n++) {
            Due.due("9 upper of " + n, x.rate(n, 0), want[2 * n]);
            Due.due("9 lower of " + n, x.rate(n, 1), want[2 * n + 1]);
        }
    }

    private static void ratesBeyond() {
        RateTree x = new RateTree();
        x.source(1000000);
        x.stage(1, 0, 50, 64);
        x.stage(1, 1, 20, 21);
        x.stage(2, 2, 64, 64);
        x.choice(3, 0);
        x.gate(3);
        Due.due("9 just the greatest", x.rate(2, 0), 1000000000);
        Due.due("9 well", x.about(2, 7), 1);
        Due.due("9 sound", x.sound(), 1);
        x.set(2, 21);
        Due.due("9 BEYOND", x.rate(2, 0), LOST);
        Due.due("9 BEYOND, lower", x.rate(2, 1), LOST);
        Due.due("9 not well", x.about(2, 7), 0);
        Due.due("9 what comes of it", x.rate(3, 0), LOST);
        Due.due("9 a choice of it", x.rate(4, 0), LOST);
        Due.due("9 a choice of it is not well", x.about(4, 7), 0);
        Due.due("9 a shut gate of it", x.rate(5, 0), 0);
        Due.due("9 a shut gate is well", x.about(5, 7), 1);
        Due.due("12 LOST", x.power(), LOST);
        Due.due("11 not sound", x.sound(), 0);
        x.set(4, 1);
        x.set(5, 1);
        Due.due("9 the other of a choice", x.rate(4, 0), 1000000);
        Due.due("9 an open gate of it", x.rate(5, 0), LOST);
    }

    private static void ratesBeyondBelow() {
        RateTree x = new RateTree();
        x.source(999983);
        x.stage(2, 0, 64, 64);
        x.stage(2, 1, 64, 64);
        x.stage(2, 2, 64, 64);
        x.stage(2, 3, 64, 64);
        x.stage(2, 4, 59, 60);
        x.stage(1, 5, 64, 64);
        Due.due("9 a lower number", x.rate(5, 1), 989855744);
        Due.due("9 its upper one", x.rate(5, 0), 999983);
        Due.due("9 cut back", x.rate(6, 1), 15466496);
        x.set(5, 60);
        Due.due("9 lower number BEYOND", x.rate(5, 0), LOST);
        Due.due("9 not healed by what comes of it", x.rate(6, 0), LOST);
        RateTree y = new RateTree();
        y.source(1);
        int[] by = {50, 50, 50, 50, 40, 4};
        for (int n = 0; n < by.length; n++) {
            y.stage(2, n, by[n], by[n] + 1);
        }
        Due.due("9 just the greatest lower number", y.rate(6, 1), 1000000000);
        Due.due("9 its upper one", y.rate(6, 0), 1);
        Due.due("9 well", y.about(6, 7), 1);
        y.set(6, 5);
        Due.due("9 the next", y.rate(6, 1), LOST);
    }

    private static void about() {
        RateTree x = new RateTree();
        Due.due("10 unknown", x.about(0, 0), RateTree.UNKNOWN);
        x.source(5);
        x.stage(1, 0, 2, 9);
        x.stage(2, 1, 3, 64);
        x.choice(2, 1);
        x.gate(3);
        x.limits(2, 1, 4);
        x.set(3, 1);
        x.lock(3, true);
        Due.due("10 UNKNOWN ahead of OUTSIDE", x.about(5, 10), RateTree.UNKNOWN);
        int[][] want = {
            {0, -9, -9, 0, 0, 0, 0, 1, 0, 1000000000},
            {1, 0, -9, 2, 2, 9, 0, 1, 0, 1000000000},
            {2, 1, -9, 3, 3, 64, 0, 1, 1, 4},
            {3, 2, 1, 1, 0, 1, 1, 1, 0, 1000000000},
            {4, 3, -9, 0, 0, 1, 0, 1, 0, 1000000000}};
        for (int n = 0; n < 5; n++) {
            for (int what = 0; what < 10; what++) {
                Due.due("10 about(" + n + ", " + what + ")", x.about(n, what), want[n][what]);
            }
            Due.due("10 what 10", x.about(n, 10), RateTree.OUTSIDE);
            Due.due("10 what -1", x.about(n, -1), RateTree.OUTSIDE);
        }
        x.set(1, 8);
        Due.due("10 40/3 is above 4", x.about(2, 7), 0);
        x.set(2, 10);
        Due.due("10 40/10 is 4", x.about(2, 7), 1);
        x.set(2, 40);
        Due.due("10 40/40 is 1", x.about(2, 7), 1);
        x.set(2, 41);
        Due.due("10 40/41 is below 1", x.about(2, 7), 0);
        x.set(2, 9);
        Due.due("10 40/9 is above 4", x.about(2, 7), 0);
    }

    private static void sound() {
        RateTree x = new RateTree();
        Due.due("11 none", x.sound(), 1);
        x.source(10);
        x.gate(0);
        x.limits(1, 20, 30);
        Due.due("11 0 is well", x.sound(), 1);
        x.set(1, 1);
        Due.due("11 the last is not well", x.sound(), 0);
        x.set(1, 0);
        x.limits(0, 11, 12);
        Due.due("11 the first is not well", x.sound(), 0);
        x.limits(0, 10, 12);
        Due.due("11 all are", x.sound(), 1);
    }

    private static void power() {
        RateTree x = new RateTree();
        Due.due("12 none", x.power(), 0);
        x.source(1000000);
        x.stage(2, 0, 3, 3);
        x.stage(2, 1, 1, 1);
        Due.due("12 each is cut by itself", x.power(), 1666666);
        RateTree y = new RateTree();
        y.source(1000000);
        y.stage(1, 0, 40, 40);
        for (int n = 2; n < 16; n++) {
            y.stage(1, 1, 25, 25);
        }
        Due.due("12 more than an int", y.power(), 14041000000L);
    }
}
