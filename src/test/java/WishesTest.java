/** Promises 13 to 19 and 21: wishes, their misses, and searches. */
public final class WishesTest {
    public static void main(String[] args) {
        wish();
        multiple();
        full();
        missOfRates();
        missOfMultiples();
        wished();
        searchRefused();
        searchWithoutNodes();
        searchByGreatestMiss();
        searchBySum();
        searchByPower();
        searchByOrder();
        searchWithLimits();
        searchWithLocks();
        searchForModes();
        searchOfTwentyThousand();
        searchOfSixteenNodesAndTwelveWishes();
        hopeless();
        planned();
        Due.end();
    }

    /** A source of 60, a multiplier 1 .. 4 of it, a divider 1 .. 5 of that. */
    private static RateTree small() {
        RateTree x = new RateTree();
        x.source(60);
        x.stage(1, 0, 1, 4);
        x.stage(2, 1, 1, 5);
        return x;
    }

    private static void wish() {
        RateTree x = new RateTree();
        Due.due("13 no node", x.wish(0, 0, 1, 1, 0), RateTree.UNKNOWN);
        x.source(60);
        Due.due("13 mode -1", x.wish(-1, 0, 1, 1, 0), RateTree.UNKNOWN);
        Due.due("13 mode 3", x.wish(3, 0, 1, 1, 0), RateTree.UNKNOWN);
        Due.due("13 UNKNOWN ahead of OUTSIDE", x.wish(0, 1, 0, 0, -1), RateTree.UNKNOWN);
        Due.due("13 a 0", x.wish(0, 0, 0, 1, 0), RateTree.OUTSIDE);
        Due.due("13 a 1000001", x.wish(0, 0, 1000001, 1, 0), RateTree.OUTSIDE);
        Due.due("13 b 0", x.wish(0, 0, 1, 0, 0), RateTree.OUTSIDE);
        Due.due("13 b 1001", x.wish(0, 0, 1, 1001, 0), RateTree.OUTSIDE);
        Due.due("13 e -1", x.wish(0, 0, 1, 1, -1), RateTree.OUTSIDE);
        Due.due("13 e 1000", x.wish(0, 0, 1, 1, 1000), RateTree.OUTSIDE);
        Due.due("13 none came", x.told(1), 0);
        Due.due("13 least", x.wish(0, 0, 1, 1, 0), 0);
        Due.due("13 greatest", x.wish(2, 0, 1000000, 1000, 999), 1);
        Due.due("13 two", x.told(1), 2);
    }

    private static void multiple() {
        RateTree x = small();
        Due.due("14 mode 3", x.multiple(3, 1, 0, 1), RateTree.UNKNOWN);
        Due.due("14 node", x.multiple(0, 3, 0, 1), RateTree.UNKNOWN);
        Due.due("14 other", x.multiple(0, 0, 3, 1), RateTree.UNKNOWN);
        Due.due("14 UNKNOWN ahead of OUTSIDE", x.multiple(0, 3, 3, 0), RateTree.UNKNOWN);
        Due.due("14 k 0", x.multiple(0, 1, 0, 0), RateTree.OUTSIDE);
        Due.due("14 k 101", x.multiple(0, 1, 0, 101), RateTree.OUTSIDE);
        Due.due("14 both are one", x.multiple(0, 1, 1, 1), RateTree.OUTSIDE);
        Due.due("14 k 1", x.multiple(0, 1, 0, 1), 0);
        Due.due("14 k 100", x.multiple(2, 0, 1, 100), 1);
    }

    private static void full() {
        RateTree x = small();
        for (int w = 0; w < 12; w++) {
            Due.due("13 a wish", w % 2 == 0 ? x.wish(1, 0, 1, 1, 0) : x.multiple(1, 0, 1, 1), w);
        }
        Due.due("13 FULL", x.wish(1, 0, 1, 1, 0), RateTree.FULL);
        Due.due("14 FULL", x.multiple(1, 0, 1, 1), RateTree.FULL);
        Due.due("13 OUTSIDE ahead of FULL", x.wish(1, 0, 0, 1, 0), RateTree.OUTSIDE);
        Due.due("14 OUTSIDE ahead of FULL", x.multiple(1, 0, 0, 1), RateTree.OUTSIDE);
        Due.due("13 still twelve", x.told(1), 12);
        Due.due("35 the multiples are met", x.told(2), 6);
    }

    private static void missOfRates() {
        RateTree x = small();
        Due.due("15 unknown", x.miss(0), RateTree.UNKNOWN);
        x.wish(0, 2, 60, 1, 0);
        x.wish(0, 2, 61, 1, 16);
        x.wish(0, 2, 1, 1000, 0);
        x.wish(0, 2, 45, 1, 332);
        x.wish(0, 2, 1000000, 1, 999);
        Due.due("15 just so", x.miss(0), 0);
        Due.due("15 below: 1/61, cut", x.miss(1), 16);
        Due.due("15 at most 1000000", x.miss(2), 1000000);
        Due.due("15 above: 15/45, cut", x.miss(3), 333);
        Due.due("15 far below", x.miss(4), 999);
        Due.due("15 unknown", x.miss(5), RateTree.UNKNOWN);
        Due.due("15 unknown", x.miss(-1), RateTree.UNKNOWN);
        Due.due("35 met", x.told(2), 3);
        x.set(1, 4);
        Due.due("15 as settings are", x.miss(0), 3000);
        Due.due("15 as settings are", x.miss(3), 4333);
        x.set(2, 5);
        Due.due("15 48 for 45", x.miss(3), 66);
        x.gate(2);
        x.wish(0, 3, 5, 7, 0);
        Due.due("15 a rate of 0", x.miss(5), 1000);
        RateTree y = new RateTree();
        y.source(1000000);
        y.stage(1, 0, 50, 64);
        y.stage(1, 1, 20, 64);
        y.wish(0, 2, 1000000, 1, 0);
        y.wish(0, 2, 1000000, 1000, 0);
        y.multiple(0, 2, 1, 20);
        Due.due("15 high", y.miss(0), 999000);
        Due.due("15 higher", y.miss(1), 1000000);
        Due.due("15 a multiple of high ones", y.miss(2), 0);
        y.set(2, 21);
        Due.due("15 BEYOND", y.miss(0), 1000000);
        Due.due("15 a multiple that is BEYOND", y.miss(2), 1000000);
    }

    private static void missOfMultiples() {
        RateTree x = small();
        x.multiple(0, 1, 2, 5);
        x.multiple(0, 2, 0, 1);
        Due.due("15 not five times", x.miss(0), 1000000);
        Due.due("15 once", x.miss(1), 0);
        x.set(2, 5);
        Due.due("15 five times", x.miss(0), 0);
        x.set(1, 3);
        Due.due("15 five times a fraction of another", x.miss(0), 0);
        Due.due("15 36 is not 60", x.miss(1), 1000000);
        x.gate(1);
        x.gate(2);
        x.multiple(0, 3, 4, 100);
        Due.due("15 0 is any times 0", x.miss(2), 0);
        RateTree y = new RateTree();
        y.source(999983);
        y.stage(2, 0, 64, 64);
        y.stage(2, 1, 63, 63);
        y.stage(2, 2, 61, 61);
        y.stage(2, 3, 59, 59);
        y.stage(2, 4, 1, 64);
        y.multiple(0, 0, 5, 100);
        y.multiple(0, 4, 5, 64);
        y.set(5, 64);
        Due.due("15 large numbers, not so", y.miss(0), 1000000);
        Due.due("15 large numbers, so", y.miss(1), 0);
        RateTree z = new RateTree();
        z.source(1);
        z.source(1);
        z.stage(2, 0, 64, 64);
        z.stage(1, 2, 64, 64);
        z.multiple(0, 1, 3, 1);
        z.multiple(0, 3, 2, 64);
        z.multiple(0, 2, 3, 64);
        Due.due("15 one", z.miss(0), 0);
        Due.due("15 64 of 64ths", z.miss(1), 0);
        Due.due("15 not the other way", z.miss(2), 1000000);
    }

    private static void wished() {
        RateTree x = small();
        Due.due("16 unknown", x.wished(0, 0), RateTree.UNKNOWN);
        x.wish(2, 1, 7, 8, 9);
        x.multiple(1, 2, 0, 33);
        int[][] want = {{0, 2, 1, 7, 8, 9}, {1, 1, 2, 0, 33, 0}};
        for (int w = 0; w < 2; w++) {
            for (int what = 0; what < 6; what++) {
                Due.due("16 wished(" + w + ", " + what + ")", x.wished(w, what), want[w][what]);
            }
            Due.due("16 what 6", x.wished(w, 6), RateTree.OUTSIDE);
            Due.due("16 what -1", x.wished(w, -1), RateTree.OUTSIDE);
        }
        Due.due("16 UNKNOWN ahead of OUTSIDE", x.wished(2, 6), RateTree.UNKNOWN);
        Due.due("16 unknown", x.wished(-1, 0), RateTree.UNKNOWN);
    }

    private static void searchRefused() {
        RateTree x = small();
        Due.due("17 mode -1", x.search(-1), RateTree.UNKNOWN);
        Due.due("17 mode 3", x.search(3), RateTree.UNKNOWN);
        Due.due("21 none tried", x.tried(), 0);
        Due.due("17 a plan", x.search(0), 0);
        Due.due("21 all", x.tried(), 20);
        x.stage(1, 0, 1, 64);
        x.stage(1, 0, 1, 64);
        Due.due("17 UNKNOWN ahead of SPENT", x.search(3), RateTree.UNKNOWN);
        Due.due("17 SPENT", x.search(0), RateTree.SPENT);
        Due.due("17 the plan stays", x.planned(2), 5);
        Due.due("21 the number stays", x.tried(), 20);
        Due.due("18 UNKNOWN ahead of SPENT", x.hopeless(3), RateTree.UNKNOWN);
        Due.due("18 SPENT", x.hopeless(0), RateTree.SPENT);
        Due.due("21 the number stays", x.tried(), 20);
        x.lock(3, true);
        Due.due("18 with one locked", x.hopeless(0), 0);
        Due.due("21 of hopeless()", x.tried(), 1280);
    }

    private static void searchWithoutNodes() {
        RateTree x = new RateTree();
        Due.due("17 the row of none", x.search(1), 0);
        Due.due("21 is one", x.tried(), 1);
        Due.due("35 no others", x.told(4), 0);
        Due.due("22 no steps", x.change(), 0);
        Due.due("24 none done", x.go(), 0);
        Due.due("19 no node", x.planned(0), RateTree.UNKNOWN);
        Due.due("22 no steps", x.change(), 0);
        x.source(1);
        Due.due("24 gone behind the first node", x.go(), RateTree.STATE);
        Due.due("19 came behind it", x.planned(0), RateTree.UNKNOWN);
        Due.due("22 came behind it", x.change(), RateTree.STATE);
        Due.due("18 nothing wished", x.hopeless(1), 0);
    }

    private static void searchByGreatestMiss() {
        RateTree x = new RateTree();
        x.source(1000);
        x.stage(1, 0, 1, 3);
        x.wish(0, 1, 2000, 1, 600);
        x.wish(0, 1, 2500, 1, 600);
        // 1: 500, 600. 2: 0, 200. 3: 500, 200.
        Due.due("17 the least greatest", x.search(0), 200);
        Due.due("17 its setting", x.planned(1), 2);
        RateTree y = new RateTree();
        y.source(1000);
        y.stage(1, 0, 1, 3);
        y.wish(0, 1, 1000, 1, 999);
        y.wish(0, 1, 2200, 1, 999);
        // 1: 0, 545 (sum 545). 2: 1000: not met.
        Due.due("17 not met is no row", y.search(0), 545);
        Due.due("17 its setting", y.planned(1), 1);
        RateTree z = new RateTree();
        z.source(1000);
        z.stage(1, 0, 1, 2);
        z.stage(1, 0, 1, 2);
        z.wish(0, 1, 1100, 1, 999);
        z.wish(0, 2, 1900, 1, 999);
        // Both wishes are best met by 1 and 2: 90, 52.
        Due.due("17 of two nodes", z.search(0), 90);
        Due.due("17 first", z.planned(1), 1);
        Due.due("17 second", z.planned(2), 2);
        Due.due("17 settings stay", z.about(2, 3), 1);
    }

    private static void searchBySum() {
        RateTree x = new RateTree();
        x.source(100);
        x.stage(1, 0, 1, 9);
        x.stage(1, 0, 1, 9);
        x.wish(0, 1, 1000, 1, 999);
        x.wish(0, 2, 50, 1, 999);
        x.wish(0, 2, 300, 1, 999);
        Due.due("17 none: 100 for 50 misses by 1000", x.search(0), RateTree.NONE);
        RateTree y = new RateTree();
        y.source(100);
        y.stage(1, 0, 1, 9);
        y.stage(1, 0, 1, 9);
        y.wish(1, 0, 1000, 1, 999);
        y.wish(1, 1, 300, 1, 999);
        y.wish(1, 2, 700, 1, 999);
        // Whatever 1 and 2 are, 900 of the first stays the greatest (with 1: 100 .. 500); the sum picks 3 and 7.
        Due.due("17 the greatest is the same", y.search(1), 900);
        Due.due("17 sum, first", y.planned(1), 3);
        Due.due("17 sum, second", y.planned(2), 7);
    }

    private static void searchByPower() {
        RateTree x = new RateTree();
        x.source(100);
        x.stage(1, 0, 1, 4);
        x.stage(2, 1, 1, 4);
        x.wish(0, 2, 100, 1, 0);
        Due.due("17 exactly", x.search(0), 0);
        Due.due("17 least power", x.planned(1), 1);
        Due.due("17 least power", x.planned(2), 1);
        RateTree y = new RateTree();
        y.source(100);
        y.stage(2, 0, 1, 4);
        Due.due("17 without wishes", y.search(0), 0);
        Due.due("17 least power is not the first row", y.planned(1), 4);
        RateTree z = new RateTree();
        z.source(3);
        z.stage(2, 0, 1, 4);
        z.search(0);
        Due.due("17 3/4 is cut to 0", z.planned(1), 4);
    }

    private static void searchByOrder() {
        RateTree x = new RateTree();
        x.source(1);
        x.stage(2, 0, 2, 9);
        x.stage(2, 0, 2, 9);
        x.search(0);
        Due.due("17 all rates cut to 0: the first", x.planned(1), 2);
        Due.due("17 all rates cut to 0: the first", x.planned(2), 2);
        RateTree y = new RateTree();
        y.source(10);
        y.choice(0, 0);
        y.choice(0, 1);
        y.search(2);
        Due.due("17 the first of choices", y.planned(1), 0);
        Due.due("17 the first of choices", y.planned(2), 0);
        RateTree z = new RateTree();
        z.source(10);
        z.source(20);
        z.choice(0, 1);
        z.choice(0, 1);
        z.multiple(0, 2, 3, 2);
        z.wish(1, 2, 15, 1, 999);
        z.wish(1, 3, 15, 1, 999);
        Due.due("17 one way alone", z.search(0), 0);
        Due.due("17 second of the two", z.planned(2), 1);
        Due.due("17 first of the two", z.planned(3), 0);
        Due.due("17 all ways miss the same", z.search(1), 333);
        Due.due("17 least power", z.planned(2), 0);
        RateTree w = new RateTree();
        w.source(6);
        w.stage(1, 0, 1, 6);
        w.stage(1, 0, 1, 6);
        w.limits(1, 12, 36);
        w.gate(1);
        w.wish(0, 1, 24, 1, 999);
        w.wish(0, 2, 24, 1, 999);
        Due.due("17 both exactly", w.search(0), 0);
        w.lock(1, true);
        Due.due("17 a locked one that is not well", w.search(0), RateTree.NONE);
        RateTree v = new RateTree();
        v.source(10);
        v.stage(1, 0, 1, 3);
        v.stage(1, 0, 1, 3);
        v.choice(1, 2);
        v.wish(0, 3, 20, 1, 0);
        // Choice 0 with 2, 1 has the power of choice 1 with 1, 2; the first node goes slowest, so 1 for it is first.
        v.search(0);
        Due.due("17 the first node goes slowest", v.planned(1), 1);
        Due.due("17 the second", v.planned(2), 2);
        Due.due("17 the third", v.planned(3), 1);
    }

    private static void searchWithLimits() {
        RateTree x = small();
        x.wish(0, 2, 120, 1, 999);
        x.limits(1, 0, 100);
        Due.due("17 not sound is no row", x.search(0), 500);
        Due.due("17 within limits", x.planned(1), 1);
        Due.due("21 all rows are gone through", x.tried(), 20);
        x.limits(0, 0, 59);
        Due.due("17 none is sound", x.search(0), RateTree.NONE);
        Due.due("17 the plan is gone", x.planned(1), RateTree.STATE);
        Due.due("35 no plan", x.told(4), RateTree.NONE);
        Due.due("21 all rows, none sound", x.tried(), 20);
        RateTree y = new RateTree();
        y.source(1000000);
        y.stage(1, 0, 1, 64);
        y.stage(1, 1, 1, 64);
        y.wish(0, 2, 1000000, 1, 999);
        y.set(1, 64);
        y.lock(1, true);
        y.set(2, 16);
        y.lock(2, true);
        Due.due("17 BEYOND is not sound", y.search(0), RateTree.NONE);
        Due.due("18 nor met", y.hopeless(0), 1);
        Due.due("21 the row as it is", y.tried(), 1);
    }

    private static void searchWithLocks() {
        RateTree x = small();
        x.set(1, 3);
        x.lock(1, true);
        x.wish(0, 2, 120, 1, 999);
        Due.due("35 rows", x.told(3), 5);
        Due.due("17 90 for 120", x.search(0), 250);
        Due.due("17 locked stays", x.planned(1), 3);
        Due.due("17 the other", x.planned(2), 2);
        Due.due("21 rows", x.tried(), 5);
        x.lock(2, true);
        Due.due("17 both locked", x.search(0), 500);
        Due.due("21 one row", x.tried(), 1);
        Due.due("17 as it is", x.planned(2), 1);
        x.wish(0, 2, 1, 1, 0);
        Due.due("17 not met as it is", x.search(0), RateTree.NONE);
    }

    private static void searchForModes() {
        RateTree x = small();
        x.wish(0, 2, 60, 1, 0);
        x.wish(1, 2, 240, 1, 0);
        x.wish(2, 2, 7, 1, 0);
        Due.due("17 mode 1", x.search(1), 0);
        Due.due("17 its plan", x.planned(1), 4);
        Due.due("17 its plan", x.planned(2), 1);
        Due.due("17 mode 0", x.search(0), 0);
        Due.due("17 its plan", x.planned(1), 1);
        Due.due("17 mode 2", x.search(2), RateTree.NONE);
        Due.due("18 mode 2", x.hopeless(2), 4);
        Due.due("18 mode 1", x.hopeless(1), 0);
    }

    private static void searchOfTwentyThousand() {
        RateTree x = new RateTree();
        x.source(1000);
        x.stage(1, 0, 1, 32);
        x.stage(2, 0, 1, 25);
        x.stage(1, 2, 1, 25);
        x.wish(0, 1, 32000, 1, 0);
        x.wish(0, 3, 25000, 25, 0);
        x.multiple(0, 1, 3, 32);
        Due.due("35 rows", x.told(3), 20000);
        Due.due("17 just 20000", x.search(0), 0);
        Due.due("21 just 20000", x.tried(), 20000);
        Due.due("17 plan", x.planned(1), 32);
        // Power: the divider's rate is least with 25.
        Due.due("17 plan", x.planned(2), 25);
        Due.due("17 plan", x.planned(3), 25);
        x.wish(0, 1, 1, 1, 0);
        Due.due("18 just 20000", x.hopeless(0), 8);
        RateTree y = new RateTree();
        y.source(1000);
        y.stage(1, 0, 1, 47);
        y.stage(1, 0, 1, 61);
        y.stage(1, 0, 1, 7);
        Due.due("35 rows", y.told(3), 20069);
        Due.due("17 more than 20000", y.search(0), RateTree.SPENT);
        Due.due("18 more than 20000", y.hopeless(0), RateTree.SPENT);
        Due.due("21 none", y.tried(), 0);
    }

    private static void searchOfSixteenNodesAndTwelveWishes() {
        RateTree x = new RateTree();
        x.source(10);
        for (int n = 1; n < 16; n++) {
            x.gate(n - 1);
            x.set(n, 1);
            x.lock(n, n < 5);
        }
        for (int w = 0; w < 11; w++) {
            Due.due("13 a wish", x.wish(1, 15 - w, 10 + w, 1, 500), w);
        }
        x.multiple(1, 15, 0, 1);
        Due.due("17 the last wish misses most", x.search(1), 500);
        Due.due("21 rows", x.tried(), 2048);
        for (int n = 1; n < 16; n++) {
            Due.due("17 all are open", x.planned(n), 1);
        }
        Due.due("18 all can be met", x.hopeless(1), 0);
        x.limits(15, 0, 9);
        Due.due("17 the last must be shut", x.search(1), RateTree.NONE);
        Due.due("18 then the first and the last wish can not be met", x.hopeless(1), 1 + 2048);
    }

    private static void hopeless() {
        RateTree x = small();
        Due.due("18 mode -1", x.hopeless(-1), RateTree.UNKNOWN);
        Due.due("18 none wished", x.hopeless(0), 0);
        Due.due("21 of hopeless()", x.tried(), 20);
        x.wish(0, 2, 60, 1, 0);
        x.wish(1, 2, 1, 1, 0);
        x.wish(0, 2, 240, 1, 0);
        x.wish(0, 2, 1, 1, 0);
        x.multiple(0, 2, 0, 5);
        Due.due("18 each by itself, whatever others are", x.hopeless(0), 8 + 16);
        Due.due("18 mode 1", x.hopeless(1), 2);
        Due.due("18 the two do not go together", x.search(0), RateTree.NONE);
        x.limits(1, 0, 180);
        Due.due("18 no sound row", x.hopeless(0), 4 + 8 + 16);
        x.limits(0, 0, 1);
        Due.due("18 none at all", x.hopeless(0), 1 + 4 + 8 + 16);
        x.limits(0, 0, 60);
        x.limits(1, 0, 240);
        x.search(2);
        Due.due("18 with a plan", x.hopeless(0), 8 + 16);
        Due.due("18 the plan stays", x.planned(1), 1);
        Due.due("22 a change to it", x.change(), 1);
        x.hopeless(0);
        Due.due("23 the change stays", x.step(0), 2);
        x.set(2, 2);
        x.lock(2, true);
        Due.due("18 with one locked", x.hopeless(0), 4 + 8 + 16);
    }

    private static void planned() {
        RateTree x = small();
        Due.due("19 no plan", x.planned(0), RateTree.STATE);
        Due.due("19 UNKNOWN ahead of STATE", x.planned(3), RateTree.UNKNOWN);
        Due.due("19 UNKNOWN ahead of STATE", x.planned(-1), RateTree.UNKNOWN);
        x.search(0);
        Due.due("19 source", x.planned(0), 0);
        Due.due("19 multiplier", x.planned(1), 1);
        Due.due("19 divider", x.planned(2), 5);
        Due.due("19 none", x.planned(3), RateTree.UNKNOWN);
        x.gate(2);
        Due.due("19 came behind it", x.planned(3), RateTree.UNKNOWN);
        Due.due("19 the others stay", x.planned(2), 5);
        x.set(2, 3);
        Due.due("19 set() does not change it", x.planned(2), 5);
    }
}
