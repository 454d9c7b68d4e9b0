import java.util.function.Consumer;

/** Promises 20 and 22 to 24: each boundary case that the document names for plans and changes, by a test of its own. */
public final class ChangeEdgesTest {
    private static final int UNKNOWN = RateTree.UNKNOWN, OUTSIDE = RateTree.OUTSIDE, STATE = RateTree.STATE;
    private static final int SPENT = RateTree.SPENT, NONE = RateTree.NONE;
    private static final int LEAST = Integer.MIN_VALUE, GREATEST = Integer.MAX_VALUE;

    public static void main(String[] args) throws Exception {
        Edges.run(ChangeEdgesTest.class);
    }

    // ---- 20 plan

    @Edge(of = 20, says = {"UNKNOWN; OUTSIDE: lane", "SHEETS 0 .. 3"})
    private static void planOfNoSheet() {
        Edges.faulted(x -> x.plan(-1, 1, 1), UNKNOWN, 0);
        Edges.faulted(x -> x.plan(4, 1, 1), UNKNOWN, 0);
        Edges.faulted(x -> x.plan(LEAST, 1, 1), UNKNOWN, 0);
        Edges.faulted(x -> x.plan(GREATEST, 1, 1), UNKNOWN, 0);
    }

    @Edge(of = 20, says = {"OUTSIDE: lane", "LANE: 0 bytes, 1 shorts, 2 ints"})
    private static void planOfALaneTooSmall() {
        Edges.faulted(x -> x.plan(1, -1, 1), OUTSIDE, 0);
        Edges.faulted(x -> x.plan(1, LEAST, 1), OUTSIDE, 0);
    }

    @Edge(of = 20, says = {"OUTSIDE: lane", "LANE: 0 bytes, 1 shorts, 2 ints"})
    private static void planOfALaneTooLarge() {
        Edges.faulted(x -> x.plan(1, 3, 1), OUTSIDE, 0);
        Edges.faulted(x -> x.plan(1, GREATEST, 1), OUTSIDE, 0);
    }

    @Edge(of = 20, says = {"UNKNOWN; OUTSIDE: lane",
        "of several the first in the order in which a call's line tells them"})
    private static void planUnknownAheadOfOutside() {
        Edges.faulted(x -> x.plan(4, 3, -1), UNKNOWN, 0);
    }

    @Edge(of = 20, says = "CAST (nothing is no CAST); NULL")
    private static void planOfAnotherLane() {
        Edges.faulted(x -> x.plan(1, 0, 1), -12, 2);
        Edges.faulted(x -> x.plan(1, 2, 1), -12, 2);
        Edges.faulted(x -> x.plan(0, 1, 0), -12, 2);
        Edges.faulted(x -> x.plan(2, 1, 0), -12, 2);
    }

    @Edge(of = 20, says = "CAST (nothing is no CAST); NULL")
    private static void planOfNothing() {
        for (int lane = 0; lane < 3; lane++) {
            int as = lane;
            Edges.faulted(x -> x.plan(3, as, 0), -11, 1);
        }
    }

    @Edge(of = 20, says = {"OUTSIDE: lane; CAST (nothing is no CAST); NULL",
        "of several the first in the order in which a call's line tells them"})
    private static void planOutsideAheadOfNull() {
        Edges.faulted(x -> x.plan(3, 3, 0), OUTSIDE, 0);
        Edges.faulted(x -> x.plan(3, -1, 0), OUTSIDE, 0);
    }

    @Edge(of = 20, says = {"CAST (nothing is no CAST); NULL; INDEX",
        "Of a call the first that is come to, in the order told"})
    private static void planCastAndNullAheadOfIndex() {
        Edges.faulted(x -> x.plan(1, 0, -1), -12, 2);
        Edges.faulted(x -> x.plan(1, 2, 9), -12, 2);
        Edges.faulted(x -> x.plan(3, 0, -1), -11, 1);
    }

    @Edge(of = 20, says = "INDEX: i is below 0, or not all cells are there")
    private static void planFromBelowZero() {
        Edges.faulted(x -> x.plan(1, 1, -1), -13, 3);
        Edges.faulted(x -> x.plan(1, 1, LEAST), -13, 3);
    }

    @Edge(of = 20, says = "INDEX: i is below 0, or not all cells are there")
    private static void planOneCellShort() {
        Edges.faulted(x -> x.plan(1, 1, 2), -13, 3);
        Edges.faulted(x -> x.plan(0, 0, 0), -13, 3);
        Edges.faulted(x -> x.plan(2, 2, 0), -13, 3);
    }

    @Edge(of = 20, says = "INDEX: i is below 0, or not all cells are there")
    private static void planFromBeyondAllCells() {
        Edges.faulted(x -> x.plan(1, 1, 8), -13, 3);
        Edges.faulted(x -> x.plan(1, 1, GREATEST), -13, 3);
        Edges.faulted(x -> x.plan(1, 1, GREATEST - 6), -13, 3);
    }

    @Edge(of = 20,
        says = "The PLAN becomes cells i .. of a SHEET, taken as a row of a LANE, one for each NODE: how many.")
    private static void planOfTheLastCells() {
        RateTree x = Made.rich();
        x.put(1, 3, 1);
        Due.due("cells 1 .. 7 of 8", x.plan(1, 1, 1), 7);
        Due.due("planned(2)", x.planned(2), 1);
        Due.due("fault()", x.fault(), 0);
    }

    @Edge(of = 20,
        says = "The PLAN becomes cells i .. of a SHEET, taken as a row of a LANE, one for each NODE: how many.")
    private static void planOfSixteenCellsAmongTwentyFour() {
        RateTree x = Made.full();
        x.sheet(0, 0, 24);
        int[] row = {0, 0, 3, 5, 1, 0, 1};
        for (int n = 0; n < 7; n++) {
            x.put(0, 8 + n, row[n]);
        }
        Due.due("one cell short", x.plan(0, 0, 9), -13);
        Due.due("the last sixteen", x.plan(0, 0, 8), 16);
        for (int n = 0; n < 16; n++) {
            Due.due("planned(" + n + ")", x.planned(n), n < 7 ? row[n] : 0);
        }
    }

    @Edge(of = 20, says = "INDEX: i is below 0, or not all cells are there")
    private static void planWithoutNodes() {
        RateTree x = new RateTree();
        Due.due("nothing", x.plan(0, 0, 0), -11);
        x.sheet(0, 0, 0);
        Due.due("below 0", x.plan(0, 0, -1), -13);
        Due.due("told(4)", x.told(4), NONE);
        Due.due("no cells for no nodes", x.plan(0, 0, 0), 0);
        Due.due("told(4)", x.told(4), 0);
    }

    private static RateTree richWithCell(int i, int v) {
        RateTree x = Made.rich();
        x.put(1, i, v);
        x.as(0, 4);
        return x;
    }

    @Edge(of = 20, says = "then OUTSIDE: a SETTING that its NODE may not have")
    private static void planOfASettingTooSmall() {
        Edges.faulted(() -> richWithCell(3, 0), x -> x.plan(1, 1, 1), OUTSIDE, 0);
        Edges.faulted(() -> richWithCell(1, -1), x -> x.plan(1, 1, 1), OUTSIDE, 0);
        Edges.faulted(() -> richWithCell(6, -1), x -> x.plan(1, 1, 1), OUTSIDE, 0);
    }

    @Edge(of = 20, says = "then OUTSIDE: a SETTING that its NODE may not have")
    private static void planOfASettingTooLarge() {
        Edges.faulted(() -> richWithCell(3, 5), x -> x.plan(1, 1, 1), OUTSIDE, 0);
        Edges.faulted(() -> richWithCell(1, 1), x -> x.plan(1, 1, 1), OUTSIDE, 0);
        Edges.faulted(() -> richWithCell(7, 2), x -> x.plan(1, 1, 1), OUTSIDE, 0);
    }

    @Edge(of = 20, says = "then OUTSIDE: a SETTING that its NODE may not have")
    private static void planOfTheLeastAndTheGreatestSettings() {
        RateTree x = Made.kinds();
        Due.due("the least", Made.plan(x, 0, 5, 3, 0, 0), 5);
        Due.due("the greatest", Made.plan(x, 0, 9, 64, 1, 1), 5);
    }

    @Edge(of = 20, says = "STATE: one other than it is, of a NODE that is LOCKED")
    private static void planOfALockedNode() {
        Edges.faulted(() -> richWithCell(7, 0), x -> x.plan(1, 1, 1), STATE, 0);
        Due.due("as it is", richWithCell(7, 1).plan(1, 1, 1), 7);
    }

    @Edge(of = 20, says = {"then OUTSIDE: a SETTING that its NODE may not have; STATE: one other than it is",
        "of several the first in the order in which a call's line tells them"})
    private static void planOutsideAheadOfLocked() {
        Edges.faulted(() -> richWithCell(7, 2), x -> x.plan(1, 1, 1), OUTSIDE, 0);
    }

    /** The locked one comes first, the one that may not be comes last. */
    @Edge(of = 20, says = {"then OUTSIDE: a SETTING that its NODE may not have; STATE: one other than it is",
        "of several the first in the order in which a call's line tells them"})
    private static void planOutsideOfALaterNodeAheadOfLocked() {
        RateTree x = Made.kinds();
        x.lock(1, true);
        Due.due("plan", Made.plan(x, 0, 6, 3, 0, 2), OUTSIDE);
        Due.due("plan", Made.plan(x, 0, 6, 3, 0, 1), STATE);
        Due.due("plan", Made.plan(x, 0, 5, 3, 0, 1), 5);
    }

    @Edge(of = 20,
        says = "The PLAN becomes cells i .. of a SHEET, taken as a row of a LANE, one for each NODE: how many.")
    private static void planOfCellsThatWereCut() {
        int[] cut = {256 + 7, 65536 + 7};
        for (int lane = 0; lane < 2; lane++) {
            RateTree x = Made.sources(1);
            x.stage(1, 0, 1, 9);
            x.sheet(0, lane, 2);
            x.put(0, 1, cut[lane]);
            Due.due("plan", x.plan(0, lane, 0), 2);
            Due.due("planned(1)", x.planned(1), 7);
        }
        RateTree y = Made.sources(1);
        y.stage(1, 0, 1, 9);
        y.sheet(0, 2, 2);
        y.put(0, 1, 65536 + 7);
        Due.due("an int is not cut", y.plan(0, 2, 0), OUTSIDE);
    }

    @Edge(of = 20,
        says = "The PLAN becomes cells i .. of a SHEET, taken as a row of a LANE, one for each NODE: how many.")
    private static void planStaysIfItsSheetChanges() {
        RateTree x = Made.rich();
        x.put(1, 3, 1);
        Due.due("put", x.planned(2), 4);
        x.lose(1);
        Due.due("lose", x.planned(2), 4);
        Due.due("told(4)", x.told(4), 3);
    }

    // ---- 22 change

    private static void steps(RateTree x, int... want) {
        Due.due("change()", x.change(), want.length);
        Due.due("told(5)", x.told(5), want.length);
        for (int i = 0; i < want.length; i++) {
            Due.due("step(" + i + ")", x.step(i), want[i]);
        }
        Due.due("no more", x.step(want.length), UNKNOWN);
    }

    @Edge(of = 22, says = "STATE: there is no PLAN, NODES came behind it, a NODE that is other in it is LOCKED; SPENT.")
    private static void changeWithoutAPlan() {
        Edges.refused(Made::empty, RateTree::change, STATE);
        Edges.refused(Made::kinds, RateTree::change, STATE);
    }

    private static RateTree richAndOneMore() {
        RateTree x = Made.rich();
        x.source(1);
        return x;
    }

    @Edge(of = 22, says = "NODES came behind it")
    private static void changeIfANodeCameBehindThePlan() {
        Edges.refused(ChangeEdgesTest::richAndOneMore, RateTree::change, STATE);
    }

    @Edge(of = 22, says = "NODES came behind it")
    private static void changeIfTheFirstNodeCameBehindThePlan() {
        RateTree x = new RateTree();
        x.search(0);
        Due.due("no nodes", x.change(), 0);
        x.source(1);
        Due.due("one", x.change(), STATE);
    }

    private static RateTree richWithLock(int n) {
        RateTree x = Made.rich();
        x.lock(n, true);
        return x;
    }

    @Edge(of = 22, says = "a NODE that is other in it is LOCKED")
    private static void changeOfALockedNode() {
        Edges.refused(() -> richWithLock(2), RateTree::change, STATE);
        Edges.refused(() -> richWithLock(5), RateTree::change, STATE);
    }

    @Edge(of = 22, says = "a NODE that is other in it is LOCKED")
    private static void changeWithALockedNodeThatIsNotOther() {
        steps(richWithLock(4), 2, 3, 5);
        steps(richWithLock(0), 2, 3, 5);
    }

    /** A source and so many gates of it, in the plan all open. */
    private static RateTree gates(int many) {
        RateTree x = Made.sources(1);
        int[] row = new int[many + 1];
        for (int n = 1; n <= many; n++) {
            x.gate(0);
            row[n] = 1;
        }
        Made.plan(x, row);
        return x;
    }

    @Edge(of = 0, says = "with more than 12 that are other: SPENT")
    private static void changeOfTwelve() {
        steps(gates(12), 1, 2, 3, 4, 5, 6, 7, 8, 9, 10, 11, 12);
    }

    @Edge(of = 0, says = "with more than 12 that are other: SPENT")
    private static void changeOfThirteen() {
        Due.due("told(4)", gates(13).told(4), 13);
        Edges.refused(() -> gates(13), RateTree::change, SPENT);
    }

    @Edge(of = 0, says = "with more than 12 that are other: SPENT")
    private static void changeOfAllFifteen() {
        Due.due("told(4)", gates(15).told(4), 15);
        Edges.refused(() -> gates(15), RateTree::change, SPENT);
    }

    @Edge(of = 0, says = "with more than 12 that are other: SPENT")
    private static void changeOfTwelveAmongFifteen() {
        RateTree x = gates(15);
        x.set(1, 1);
        x.set(8, 1);
        Due.due("thirteen", x.change(), SPENT);
        x.set(15, 1);
        steps(x, 2, 3, 4, 5, 6, 7, 9, 10, 11, 12, 13, 14);
    }

    private static RateTree thirteenWithLock() {
        RateTree x = gates(13);
        x.lock(13, true);
        return x;
    }

    @Edge(of = 22, says = {"a NODE that is other in it is LOCKED; SPENT.",
        "of several the first in the order in which a call's line tells them"})
    private static void changeStateAheadOfSpent() {
        Edges.refused(ChangeEdgesTest::thirteenWithLock, RateTree::change, STATE);
        RateTree x = gates(13);
        x.source(1);
        Due.due("a node came behind it", x.change(), STATE);
    }

    @Edge(of = 22, says = "A CHANGE to the PLAN is found: how many STEPS")
    private static void changeWithNoOthers() {
        RateTree x = Made.kinds();
        Made.plan(x, 0, 5, 3, 0, 0);
        steps(x);
        Due.due("go()", x.go(), 0);
    }

    @Edge(of = 22, says = "A CHANGE to the PLAN is found: how many STEPS")
    private static void changeWithNoOthersThoughNotSound() {
        RateTree x = Made.kinds();
        x.limits(0, 0, 1);
        Made.plan(x, 0, 5, 3, 0, 0);
        steps(x);
    }

    @Edge(of = 22, says = "A CHANGE to the PLAN is found: how many STEPS")
    private static void changeWithoutNodes() {
        RateTree x = new RateTree();
        x.search(0);
        steps(x);
    }

    /** A source of 1000, a multiplier 1 .. 9 of it, a divider 1 .. 9 of that, in the plan 4 and 4. */
    private static RateTree twoStages(int floor, int roof) {
        RateTree x = Made.sources(1000);
        x.stage(1, 0, 1, 9);
        x.stage(2, 1, 1, 9);
        x.limits(2, floor, roof);
        Made.plan(x, 0, 4, 4);
        return x;
    }

    @Edge(of = 0, says = "Of all such rows (they are as long as there are others) the first, by the NODES' numbers.")
    private static void changeInTheFirstOrder() {
        steps(twoStages(0, 5000), 1, 2);
    }

    @Edge(of = 0, says = "behind each STEP all are SOUND")
    private static void changeSoundAtItsLimitsOnTheWay() {
        steps(twoStages(1000, 4000), 1, 2);
        steps(twoStages(250, 3999), 2, 1);
        steps(twoStages(250, 1000), 2, 1);
    }

    @Edge(of = 22, says = "NONE: there is none.")
    private static void changeThatIsNoneOnTheWay() {
        RateTree x = twoStages(251, 3999);
        Due.due("change()", x.change(), NONE);
        Due.due("told(5)", x.told(5), NONE);
        Due.due("step(0)", x.step(0), UNKNOWN);
        Due.due("go()", x.go(), STATE);
        Due.due("the plan stays", x.planned(1), 4);
    }

    @Edge(of = 0, says = "behind each STEP all are SOUND")
    private static void changeThatIsNoneAtItsEnd() {
        RateTree x = Made.sources(1000);
        x.stage(1, 0, 1, 9);
        x.limits(1, 0, 8999);
        Made.plan(x, 0, 9);
        Due.due("change()", x.change(), NONE);
        x.limits(1, 0, 9000);
        steps(x, 1);
    }

    @Edge(of = 0, says = "behind each STEP all are SOUND")
    private static void changeFromSettingsThatAreNotSound() {
        RateTree x = Made.sources(1000);
        x.stage(1, 0, 1, 9);
        x.stage(2, 0, 1, 9);
        x.limits(1, 2000, 9000);
        Made.plan(x, 0, 2, 2);
        Due.due("sound()", x.sound(), 0);
        steps(x, 1, 2);
    }

    @Edge(of = 0, says = "behind each STEP all are SOUND")
    private static void changeNotBeyondOnTheWay() {
        RateTree x = Made.sources(1000000);
        x.stage(1, 0, 1, 64);
        x.stage(1, 1, 1, 64);
        x.stage(2, 2, 1, 2);
        x.set(1, 64);
        Made.plan(x, 0, 15, 64, 1);
        steps(x, 1, 2);
        x.set(1, 15);
        x.set(2, 64);
        Made.plan(x, 0, 64, 1, 1);
        steps(x, 2, 1);
    }

    /** With the gate open first, neither the multiplier (40) nor the divider (2.5) could follow. */
    @Edge(of = 0, says = "Of all such rows (they are as long as there are others) the first, by the NODES' numbers.")
    private static void changeNotByTheNextStepAlone() {
        RateTree x = Made.sources(10);
        x.gate(0);
        x.stage(1, 1, 1, 4);
        x.stage(2, 2, 1, 4);
        x.limits(3, 5, 20);
        Made.plan(x, 0, 1, 4, 4);
        steps(x, 2, 3, 1);
    }

    @Edge(of = 0, says = "in each the SETTING of one NODE that is other in the PLAN becomes that")
    private static void changeOfOneNodeAtATime() {
        RateTree x = Made.sources(10);
        x.choice(0, 0);
        x.stage(1, 0, 1, 2);
        x.stage(2, 2, 1, 2);
        x.limits(3, 10, 10);
        Made.plan(x, 0, 1, 2, 2);
        Due.due("both at once would do", x.change(), NONE);
        Made.plan(x, 0, 1, 1, 1);
        steps(x, 1);
    }

    @Edge(of = 0, says = "each just once, all others staying")
    private static void changeOfOthersAlone() {
        RateTree x = Made.rich();
        boolean[] isStep = new boolean[Made.NODES];
        for (int i = 0; i < x.told(5); i++) {
            Due.holds("just once", !isStep[x.step(i)]);
            isStep[x.step(i)] = true;
        }
        for (int n = 0; n < Made.NODES; n++) {
            Due.holds("a step, if it is other: " + n, isStep[n] == (x.planned(n) != x.about(n, 3)));
        }
    }

    /** Each choice passes on what the one ahead of it gives, which it can't bear once that one is changed. */
    @Edge(of = 0, says = "Of all such rows (they are as long as there are others) the first, by the NODES' numbers.")
    private static void changeOfTwelveFromTheLastToTheFirst() {
        RateTree x = Made.sources(200, 100, 300);
        int[] row = new int[15];
        int of = 0;
        for (int n = 3; n < 15; n++) {
            boolean isOdd = n % 2 == 1;
            of = x.choice(of, isOdd ? 1 : 2);
            x.limits(of, isOdd ? 100 : 200, isOdd ? 200 : 300);
            row[n] = 1;
        }
        Made.plan(x, row);
        steps(x, 14, 13, 12, 11, 10, 9, 8, 7, 6, 5, 4, 3);
    }

    /** Every set of changed nodes but the whole is sound: each must be given up once, not once for each order. */
    @Edge(of = 0, says = "(All rows are tried by sets of NODES changed")
    private static void changeOfTwelveThatIsNoneAtItsEnd() {
        RateTree x = Made.sources(1);
        int[] row = new int[13];
        for (int n = 1; n < 13; n++) {
            x.stage(1, n - 1, 1, 2);
            row[n] = 2;
        }
        x.limits(12, 0, 4095);
        Made.plan(x, row);
        Due.due("change()", x.change(), NONE);
        x.limits(12, 0, 4096);
        steps(x, 1, 2, 3, 4, 5, 6, 7, 8, 9, 10, 11, 12);
    }

    /** 2 alone is sound and leads nowhere: neither 1 nor 3 can follow it; with 3 and 1 changed it can be the last. */
    @Edge(of = 0, says = "(All rows are tried by sets of NODES changed")
    private static void changeByASetBesideOneThatLeadsNowhere() {
        RateTree x = Made.sources(100);
        x.stage(1, 0, 1, 8);
        x.stage(1, 1, 1, 2);
        x.stage(1, 2, 1, 4);
        x.set(2, 2);
        x.set(3, 4);
        x.limits(3, 200, 1600);
        Made.plan(x, 0, 8, 1, 1);
        steps(x, 3, 1, 2);
    }

    // ---- 23 step

    @Edge(of = 23, says = "UNKNOWN")
    private static void stepThatIsNone() {
        Edges.refused(x -> x.step(-1), UNKNOWN);
        Edges.refused(x -> x.step(3), UNKNOWN);
        Edges.refused(x -> x.step(GREATEST), UNKNOWN);
        Edges.refused(x -> x.step(LEAST), UNKNOWN);
    }

    @Edge(of = 23, says = "The NODE of STEP i of the CHANGE found latest")
    private static void stepFirstAndLast() {
        RateTree x = Made.rich();
        Due.due("step(0)", x.step(0), 2);
        Due.due("step(2)", x.step(2), 5);
    }

    @Edge(of = 23, says = "UNKNOWN")
    private static void stepOfAChangeWithoutSteps() {
        RateTree x = Made.kinds();
        Made.plan(x, 0, 5, 3, 0, 0);
        Due.due("change()", x.change(), 0);
        Due.due("step(0)", x.step(0), UNKNOWN);
    }

    @Edge(of = 23, says = "UNKNOWN")
    private static void stepThirteenthOfTwelve() {
        RateTree x = gates(12);
        x.change();
        Due.due("step(11)", x.step(11), 12);
        Due.due("step(12)", x.step(12), UNKNOWN);
    }

    @Edge(of = 23, says = "The NODE of STEP i of the CHANGE found latest")
    private static void stepOfTheLatest() {
        RateTree x = Made.rich();
        Made.plan(x, 0, 0, 2, 1, 1, 0, 1);
        steps(x, 4);
    }

    private static void gone(Consumer<RateTree> call) {
        RateTree x = Made.rich();
        Due.due("told(5) ahead of it", x.told(5), 3);
        call.accept(x);
        Due.due("step(0)", x.step(0), UNKNOWN);
        Due.due("told(5)", x.told(5), NONE);
        Due.due("go()", x.go(), STATE);
    }

    @Edge(of = 23, says = "(it is gone behind any source(), stage(), choice(), gate()")
    private static void goneBehindSource() {
        gone(x -> x.source(1));
    }

    @Edge(of = 23, says = "(it is gone behind any source(), stage(), choice(), gate()")
    private static void goneBehindTheVeryFirstSource() {
        RateTree x = new RateTree();
        x.search(0);
        Due.due("a change of nothing", x.change(), 0);
        x.source(1);
        Due.due("told(5)", x.told(5), NONE);
        Due.due("go()", x.go(), STATE);
    }

    @Edge(of = 23, says = "(it is gone behind any source(), stage(), choice(), gate()")
    private static void goneBehindStage() {
        gone(x -> x.stage(1, 0, 1, 1));
        gone(x -> x.stage(2, 0, 1, 1));
    }

    @Edge(of = 23, says = "(it is gone behind any source(), stage(), choice(), gate()")
    private static void goneBehindChoice() {
        gone(x -> x.choice(0, 0));
    }

    @Edge(of = 23, says = "(it is gone behind any source(), stage(), choice(), gate()")
    private static void goneBehindGate() {
        gone(x -> x.gate(0));
    }

    @Edge(of = 23, says = "limits(), set(), lock(), search(), plan(), go() that is not refused")
    private static void goneBehindLimits() {
        gone(x -> x.limits(3, 100, 2400));
    }

    @Edge(of = 23, says = "limits(), set(), lock(), search(), plan(), go() that is not refused")
    private static void goneBehindSet() {
        gone(x -> x.set(2, 3));
    }

    @Edge(of = 23, says = "limits(), set(), lock(), search(), plan(), go() that is not refused")
    private static void goneBehindSetToWhatItIs() {
        gone(x -> x.set(0, 0));
    }

    @Edge(of = 23, says = "limits(), set(), lock(), search(), plan(), go() that is not refused")
    private static void goneBehindLock() {
        gone(x -> x.lock(0, true));
        gone(x -> x.lock(6, false));
    }

    @Edge(of = 23, says = "limits(), set(), lock(), search(), plan(), go() that is not refused")
    private static void goneBehindLockThatWasSo() {
        gone(x -> x.lock(6, true));
        gone(x -> x.lock(0, false));
    }

    @Edge(of = 23, says = "limits(), set(), lock(), search(), plan(), go() that is not refused")
    private static void goneBehindSearch() {
        gone(x -> x.search(1));
    }

    @Edge(of = 23, says = "limits(), set(), lock(), search(), plan(), go() that is not refused")
    private static void goneBehindSearchThatFindsNone() {
        gone(x -> x.search(2));
    }

    @Edge(of = 23, says = "limits(), set(), lock(), search(), plan(), go() that is not refused")
    private static void goneBehindPlan() {
        gone(x -> x.plan(1, 1, 1));
    }

    @Edge(of = 23, says = "limits(), set(), lock(), search(), plan(), go() that is not refused")
    private static void goneBehindGo() {
        gone(RateTree::go);
    }

    @Edge(of = 23, says = "change() that finds none, too")
    private static void goneBehindChangeThatFindsNone() {
        RateTree x = twoStages(251, 3999);
        x.limits(2, 0, 5000);
        Due.due("found", x.change(), 2);
        x.limits(2, 251, 3999);
        Due.due("none", x.change(), NONE);
        Due.due("told(5)", x.told(5), NONE);
        Due.due("go()", x.go(), STATE);
    }

    @Edge(of = 23, says = "The NODE of STEP i of the CHANGE found latest")
    private static void stepStaysBehindOtherCalls() {
        RateTree x = Made.rich();
        x.wish(0, 0, 1, 1, 0);
        x.multiple(0, 0, 1, 1);
        x.hopeless(0);
        x.sheet(1, 0, 5);
        x.put(1, 1, 1);
        x.copy(1, 0, 1, 1, 1);
        x.lose(1);
        x.tell(5);
        x.spread(5);
        x.as(5, 3);
        Look.at(x);
        Due.due("step(0)", x.step(0), 2);
        Due.due("step(1)", x.step(1), 3);
        Due.due("step(2)", x.step(2), 5);
        Due.due("go()", x.go(), 3);
    }

    @Edge(of = 23, says = "that is not refused")
    private static void stepStaysIfFound() {
        RateTree x = Made.rich();
        Due.due("again", x.change(), 3);
        Due.due("step(2)", x.step(2), 5);
        Due.due("told(5)", x.told(5), 3);
    }

    // ---- 24 go

    private static RateTree richBehindGo() {
        RateTree x = Made.rich();
        x.go();
        return x;
    }

    @Edge(of = 24, says = "STATE: there is none found (any more).")
    private static void goWithoutAChange() {
        Edges.refused(Made::empty, RateTree::go, STATE);
        Edges.refused(Made::kinds, RateTree::go, STATE);
    }

    @Edge(of = 24, says = "STATE: there is none found (any more).")
    private static void goTwice() {
        Edges.refused(ChangeEdgesTest::richBehindGo, RateTree::go, STATE);
    }

    @Edge(of = 24, says = "STATE: there is none found (any more).")
    private static void goWithAPlanForWhichNoChangeWasAsked() {
        Edges.refused(() -> gates(3), RateTree::go, STATE);
    }

    @Edge(of = 24, says = "All STEPS of it are done: how many.")
    private static void goToThePlan() {
        RateTree x = Made.rich();
        Due.due("go()", x.go(), 3);
        int[] want = {0, 0, 4, 2, 0, 1, 1};
        for (int n = 0; n < want.length; n++) {
            Due.due("setting of " + n, x.about(n, 3), want[n]);
            Due.due("planned(" + n + ")", x.planned(n), want[n]);
        }
        Due.due("told(4)", x.told(4), 0);
        Due.due("the next change", x.change(), 0);
    }

    @Edge(of = 24, says = "All STEPS of it are done: how many.")
    private static void goOfTwelve() {
        RateTree x = gates(12);
        x.change();
        Due.due("go()", x.go(), 12);
        for (int n = 1; n <= 12; n++) {
            Due.due("setting of " + n, x.about(n, 3), 1);
        }
    }

    @Edge(of = 24, says = "All STEPS of it are done: how many.")
    private static void goWithoutSteps() {
        RateTree x = Made.kinds();
        Made.plan(x, 0, 5, 3, 0, 0);
        x.change();
        Due.due("go()", x.go(), 0);
        Due.due("go() again", x.go(), STATE);
    }
}
