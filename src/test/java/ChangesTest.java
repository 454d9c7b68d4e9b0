/** Promises 20 and 22 to 24: plans from sheets, changes, their steps. */
public final class ChangesTest {
    public static void main(String[] args) {
        planRefused();
        planFromLanes();
        planOfNoNodes();
        changeRefused();
        changeOfTwelve();
        changeInFirstOrder();
        changeInForcedOrder();
        changeAgainstGreed();
        changeFromUnsound();
        changeThatIsNone();
        stepIsGone();
        stepStays();
        go();
        Due.end();
    }

    /** A source of 1000, a multiplier 1 .. 9 of it, a divider 1 .. 9 of that. */
    private static RateTree small() {
        RateTree x = new RateTree();
        x.source(1000);
        x.stage(1, 0, 1, 9);
        x.stage(2, 1, 1, 9);
        return x;
    }

    private static int plan(RateTree x, int... row) {
        x.sheet(3, 2, row.length);
        for (int i = 0; i < row.length; i++) {
            x.put(3, i, row[i]);
        }
        return x.plan(3, 2, 0);
    }

    private static void steps(RateTree x, String what, int... want) {
        Due.due(what + ": how many", x.change(), want.length);
        for (int i = 0; i < want.length; i++) {
            Due.due(what + ": step " + i, x.step(i), want[i]);
        }
        Due.due(what + ": no more", x.step(want.length), RateTree.UNKNOWN);
        Due.due(what + ": none ahead", x.step(-1), RateTree.UNKNOWN);
        Due.due(what + ": told(5)", x.told(5), want.length);
    }

    private static void planRefused() {
        RateTree x = small();
        Due.due("20 sheet 4", x.plan(4, 9, -1), RateTree.UNKNOWN);
        Due.due("20 sheet -1", x.plan(-1, 0, 0), RateTree.UNKNOWN);
        Due.due("20 lane 3, of nothing", x.plan(0, 3, 0), RateTree.OUTSIDE);
        Due.due("20 lane -1", x.plan(0, -1, 0), RateTree.OUTSIDE);
        Due.due("34 refused", x.fault(), 0);
        Due.due("20 nothing is no CAST", x.plan(0, 1, -1), -11);
        Due.due("34 NULL", x.fault(), 1);
        x.sheet(0, 1, 4);
        Due.due("20 CAST ahead of INDEX", x.plan(0, 0, -1), -12);
        Due.due("34 CAST", x.fault(), 2);
        Due.due("20 i -1", x.plan(0, 1, -1), -13);
        Due.due("34 INDEX", x.fault(), 3);
        Due.due("20 not all cells are there", x.plan(0, 1, 2), -13);
        Due.due("20 far beyond", x.plan(0, 1, Integer.MAX_VALUE), -13);
        Due.due("20 settings of 0", x.plan(0, 1, 0), RateTree.OUTSIDE);
        Due.due("34 refused", x.fault(), 0);
        x.put(0, 1, 9);
        x.put(0, 2, 10);
        x.lock(1, true);
        Due.due("20 OUTSIDE of a later node ahead of STATE", x.plan(0, 1, 0), RateTree.OUTSIDE);
        x.put(0, 2, 9);
        Due.due("20 LOCKED", x.plan(0, 1, 0), RateTree.STATE);
        Due.due("19 no plan came", x.planned(0), RateTree.STATE);
        x.put(0, 1, 1);
        Due.due("20 LOCKED, as it is", x.plan(0, 1, 0), 3);
        Due.due("34 none", x.fault(), 0);
        x.put(0, 2, 0);
        Due.due("20 below low", x.plan(0, 1, 0), RateTree.OUTSIDE);
        Due.due("19 the plan stays", x.planned(2), 9);
        x.put(0, 0, 1);
        Due.due("20 a source's setting is 0", x.plan(0, 1, 0), RateTree.OUTSIDE);
    }

    private static void planFromLanes() {
        for (int lane = 0; lane < 3; lane++) {
            RateTree x = small();
            x.sheet(2, lane, 5);
            x.put(2, 3, 7);
            x.put(2, 4, 256 * 256 + 8);
            int want = lane == 2 ? RateTree.OUTSIDE : 3;
            Due.due("20 last cells, lane " + lane, x.plan(2, lane, 2), want);
            Due.due("20 first", x.planned(1), lane == 2 ? RateTree.STATE : 7);
            Due.due("20 cut", x.planned(2), lane == 2 ? RateTree.STATE : 8);
            x.put(2, 3, 1);
            Due.due("20 the plan is no sheet", x.planned(1), lane == 2 ? RateTree.STATE : 7);
        }
    }

    private static void planOfNoNodes() {
        RateTree x = new RateTree();
        x.sheet(0, 0, 0);
        Due.due("20 no nodes", x.plan(0, 0, 0), 0);
        Due.due("35 no others", x.told(4), 0);
        Due.due("20 i 1 of none", x.plan(0, 0, 1), -13);
        Due.due("20 i -1 of none", x.plan(0, 0, -1), -13);
    }

    private static void changeRefused() {
        RateTree x = small();
        Due.due("22 no plan", x.change(), RateTree.STATE);
        plan(x, 0, 5, 5);
        x.lock(2, true);
        Due.due("22 an other one is LOCKED", x.change(), RateTree.STATE);
        x.lock(2, false);
        x.set(2, 5);
        x.lock(2, true);
        Due.due("22 LOCKED, but as planned", x.change(), 1);
        x.gate(0);
        Due.due("22 a node came behind it", x.change(), RateTree.STATE);
        Due.due("35 others", x.told(4), 1);
        Due.due("23 the change is gone", x.step(0), RateTree.UNKNOWN);
    }

    private static RateTree wide(int many) {
        RateTree x = new RateTree();
        x.source(1);
        for (int n = 1; n <= many; n++) {
            x.gate(n % 2 == 0 ? n - 1 : 0);
        }
        return x;
    }

    private static int[] ones(int many) {
        int[] row = new int[many + 1];
        for (int n = 1; n <= many; n++) {
            row[n] = 1;
        }
        return row;
    }

    private static void changeOfTwelve() {
        RateTree x = wide(12);
        plan(x, ones(12));
        steps(x, "22 twelve", 1, 2, 3, 4, 5, 6, 7, 8, 9, 10, 11, 12);
        RateTree y = wide(13);
        plan(y, ones(13));
        Due.due("35 thirteen", y.told(4), 13);
        Due.due("22 thirteen: SPENT", y.change(), RateTree.SPENT);
        y.set(1, 1);
        steps(y, "22 twelve of thirteen", 2, 3, 4, 5, 6, 7, 8, 9, 10, 11, 12, 13);
        y.set(1, 0);
        y.lock(5, true);
        Due.due("22 STATE ahead of SPENT", y.change(), RateTree.STATE);
        RateTree z = wide(15);
        z.set(2, 1);
        z.set(9, 1);
        z.set(15, 1);
        plan(z, ones(15));
        steps(z, "22 twelve of fifteen", 1, 3, 4, 5, 6, 7, 8, 10, 11, 12, 13, 14);
        RateTree w = wide(12);
        w.source(1);
        w.stage(1, 13, 1, 2);
        w.set(14, 2);
        w.limits(14, 0, 1);
        plan(w, 0, 1, 1, 1, 1, 1, 1, 1, 1, 1, 1, 1, 1, 0, 2);
        Due.due("22 a node behind the others is never sound", w.change(), RateTree.NONE);
    }

    private static void changeInFirstOrder() {
        RateTree x = small();
        plan(x, 0, 4, 2);
        steps(x, "22 no limits", 1, 2);
        plan(x, 0, 1, 1);
        steps(x, "22 none are other", new int[0]);
        Due.due("24 none", x.go(), 0);
    }

    private static void changeInForcedOrder() {
        RateTree x = small();
        x.limits(2, 0, 2500);
        plan(x, 0, 4, 2);
        steps(x, "22 the divider first", 2, 1);
        Due.due("24 both", x.go(), 2);
        Due.due("24 set", x.about(1, 3), 4);
        Due.due("24 set", x.about(2, 3), 2);
        plan(x, 0, 1, 1);
        steps(x, "22 the multiplier first", 1, 2);
        RateTree y = small();
        y.limits(2, 600, 1900);
        plan(y, 0, 4, 4);
        Due.due("22 neither first", y.change(), RateTree.NONE);
    }

    /** The first order by numbers leads into a dead end at the last step but one. */
    private static void changeAgainstGreed() {
        RateTree x = new RateTree();
        x.source(10);
        x.gate(0);
        x.stage(1, 0, 1, 3);
        x.choice(0, 2);
        x.stage(1, 3, 1, 3);
        x.limits(4, 0, 60);
        x.set(3, 1);
        x.set(4, 3);
        plan(x, 0, 1, 3, 0, 2);
        // 4 is 10 * 3 first; 2 to 3 makes 90: too much, unless 3 goes to the source, or 4 to 2.
        steps(x, "22 not by greed", 1, 3, 2, 4);
        RateTree y = new RateTree();
        y.source(10);
        y.stage(1, 0, 1, 4);
        y.stage(2, 1, 1, 4);
        y.stage(1, 2, 1, 4);
        y.limits(3, 10, 20);
        plan(y, 0, 4, 4, 2);
        // 1 can't go first (40); 2 can't (2.5); 3 can (20); then neither 1 (80) nor 2 (5).
        Due.due("22 all ways are dead", y.change(), RateTree.NONE);
        y.limits(3, 5, 20);
        steps(y, "22 one way", 3, 2, 1);
        y.limits(3, 2, 20);
        steps(y, "22 an earlier way", 2, 1, 3);
        y.limits(3, 2, 40);
        steps(y, "22 the earliest way", 1, 2, 3);
    }

    private static void changeFromUnsound() {
        RateTree x = small();
        x.set(1, 9);
        x.limits(1, 0, 5000);
        plan(x, 0, 5, 2);
        Due.due("11 not sound", x.sound(), 0);
        steps(x, "22 sound behind each step", 1, 2);
        plan(x, 0, 6, 2);
        Due.due("22 the end is not sound", x.change(), RateTree.NONE);
        plan(x, 0, 9, 1);
        steps(x, "22 no step, though not sound", new int[0]);
    }

    private static void changeThatIsNone() {
        RateTree x = small();
        plan(x, 0, 4, 2);
        Due.due("22 found", x.change(), 2);
        x.limits(1, 0, 1000);
        Due.due("22 none", x.change(), RateTree.NONE);
        Due.due("23 none", x.step(0), RateTree.UNKNOWN);
        Due.due("24 none", x.go(), RateTree.STATE);
        Due.due("35 none", x.told(5), RateTree.NONE);
    }

    private static RateTree found() {
        RateTree x = small();
        plan(x, 0, 4, 2);
        Due.due("22 found", x.change(), 2);
        return x;
    }

    private static void gone(String what, RateTree x) {
        Due.due("23 step behind " + what, x.step(0), RateTree.UNKNOWN);
        Due.due("24 go behind " + what, x.go(), RateTree.STATE);
        Due.due("35 told(5) behind " + what, x.told(5), RateTree.NONE);
    }

    private static void stepIsGone() {
        RateTree x = found();
        x.source(1);
        gone("source", x);
        x = found();
        x.stage(1, 0, 1, 1);
        gone("stage", x);
        x = found();
        x.choice(0, 0);
        gone("choice", x);
        x = found();
        x.gate(0);
        gone("gate", x);
        x = found();
        x.limits(0, 0, 1000000000);
        gone("limits", x);
        x = found();
        x.set(0, 0);
        gone("set", x);
        x = found();
        x.lock(0, false);
        gone("lock, as it was", x);
        x = found();
        x.lock(0, true);
        gone("lock", x);
        x = found();
        x.search(0);
        gone("search", x);
        x = found();
        x.wish(1, 0, 1, 1, 0);
        Due.due("17 none", x.search(1), RateTree.NONE);
        gone("search that finds none", x);
        x = found();
        x.plan(3, 2, 0);
        gone("plan", x);
        x = found();
        x.go();
        gone("go", x);
    }

    private static void stays(String what, RateTree x) {
        Due.due("23 step behind " + what, x.step(0), 1);
        Due.due("23 step behind " + what, x.step(1), 2);
        Due.due("35 told(5) behind " + what, x.told(5), 2);
    }

    private static void stepStays() {
        RateTree x = found();
        x.source(0);
        x.stage(1, 0, 0, 1);
        x.stage(1, 9, 1, 1);
        x.choice(0, 9);
        x.gate(9);
        stays("refused nodes", x);
        x.limits(9, 0, 0);
        x.limits(0, 1, 0);
        x.set(9, 0);
        x.set(0, 1);
        x.lock(9, true);
        stays("refused limits, set, lock", x);
        x.search(3);
        x.plan(4, 0, 0);
        x.plan(0, 3, 0);
        x.plan(3, 1, 0);
        x.plan(0, 1, 0);
        x.plan(3, 2, 1);
        x.put(3, 0, 1);
        x.plan(3, 2, 0);
        stays("refused search, plan", x);
        x.wish(0, 0, 1, 1, 0);
        x.multiple(0, 0, 1, 1);
        x.hopeless(0);
        x.sheet(3, 0, 1);
        x.lose(3);
        x.tell(1);
        x.spread(1);
        x.power();
        stays("other calls", x);
        Due.due("22 again", x.change(), 2);
        stays("change", x);
        RateTree y = new RateTree();
        y.source(1);
        for (int n = 1; n < 16; n++) {
            y.stage(1, 0, 1, 2);
        }
        int[] row = ones(15);
        row[1] = 2;
        row[2] = 2;
        plan(y, row);
        Due.due("22 found", y.change(), 2);
        y.source(1);
        y.stage(1, 0, 1, 1);
        y.choice(0, 0);
        y.gate(0);
        stays("FULL", y);
        Due.due("17 SPENT", y.search(0), RateTree.SPENT);
        stays("SPENT", y);
    }

    private static void go() {
        RateTree x = found();
        Due.due("24 all", x.go(), 2);
        Due.due("24 first", x.about(1, 3), 4);
        Due.due("24 second", x.about(2, 3), 2);
        Due.due("24 source", x.about(0, 3), 0);
        Due.due("24 the plan stays", x.planned(1), 4);
        Due.due("35 no others", x.told(4), 0);
        Due.due("24 done once", x.go(), RateTree.STATE);
        Due.due("22 no more to do", x.change(), 0);
        Due.due("35 a change of no steps", x.told(5), 0);
        Due.due("24 of no steps", x.go(), 0);
        Due.due("24 done once", x.go(), RateTree.STATE);
    }
}
