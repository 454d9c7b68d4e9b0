/** Promises 1 to 12: each boundary case that the document names for nodes, by a test of its own. */
public final class NodeEdgesTest {
    private static final int UNKNOWN = RateTree.UNKNOWN, OUTSIDE = RateTree.OUTSIDE, STATE = RateTree.STATE;
    private static final int FULL = RateTree.FULL, NONE = RateTree.NONE;
    private static final long LOST = RateTree.LOST;
    private static final int LEAST = Integer.MIN_VALUE, GREATEST = Integer.MAX_VALUE;
    private static final int MOST = 1000000000;

    public static void main(String[] args) throws Exception {
        Edges.run(NodeEdgesTest.class);
    }

    // ---- 1 a new object

    @Edge(of = 1, says = "No NODES, WISHES, SHEETS, PLAN.")
    private static void newHasNoNodes() {
        RateTree x = new RateTree();
        Due.due("told(0)", x.told(0), 0);
        Due.due("about(0, 0)", x.about(0, 0), UNKNOWN);
    }

    @Edge(of = 1, says = "No NODES, WISHES, SHEETS, PLAN.")
    private static void newHasNoWishes() {
        RateTree x = new RateTree();
        Due.due("told(1)", x.told(1), 0);
        Due.due("told(2)", x.told(2), 0);
        Due.due("wished(0, 0)", x.wished(0, 0), UNKNOWN);
    }

    @Edge(of = 1, says = "No NODES, WISHES, SHEETS, PLAN.")
    private static void newHasNoSheets() {
        RateTree x = new RateTree();
        for (int k = 0; k < 4; k++) {
            Due.due("put", x.put(k, 0, 0), -11);
            Due.due("lose", x.lose(k), 0);
        }
    }

    @Edge(of = 1, says = "No NODES, WISHES, SHEETS, PLAN.")
    private static void newHasNoPlan() {
        RateTree x = new RateTree();
        Due.due("told(4)", x.told(4), NONE);
        Due.due("change()", x.change(), STATE);
        x.source(1);
        Due.due("planned(0)", x.planned(0), STATE);
    }

    @Edge(of = 1, says = "No NODES, WISHES, SHEETS, PLAN.")
    private static void newHasNoChange() {
        RateTree x = new RateTree();
        Due.due("told(5)", x.told(5), NONE);
        Due.due("step(0)", x.step(0), UNKNOWN);
        Due.due("go()", x.go(), STATE);
    }

    @Edge(of = 1, says = "No NODES, WISHES, SHEETS, PLAN.")
    private static void newIsApartFromOthers() {
        RateTree x = new RateTree();
        Made.rich();
        Due.same("a new one behind another", Look.at(new RateTree()), Look.at(x));
        Due.due("fault()", new RateTree().fault(), 0);
    }

    // ---- 2 source

    @Edge(of = 2, says = {"OUTSIDE; FULL.", "0 SOURCE: gives r (1 .. 1000000)"})
    private static void sourceOfZero() {
        Edges.refused(x -> x.source(0), OUTSIDE);
    }

    @Edge(of = 2, says = {"OUTSIDE; FULL.", "0 SOURCE: gives r (1 .. 1000000)"})
    private static void sourceBelowZero() {
        Edges.refused(x -> x.source(-1), OUTSIDE);
        Edges.refused(x -> x.source(LEAST), OUTSIDE);
    }

    @Edge(of = 2, says = {"OUTSIDE; FULL.", "0 SOURCE: gives r (1 .. 1000000)"})
    private static void sourceTooLarge() {
        Edges.refused(x -> x.source(1000001), OUTSIDE);
        Edges.refused(x -> x.source(GREATEST), OUTSIDE);
    }

    @Edge(of = 2, says = {"A SOURCE: its number.", "0 SOURCE: gives r (1 .. 1000000)"})
    private static void sourceOfOne() {
        RateTree x = new RateTree();
        Due.due("source(1)", x.source(1), 0);
        Due.due("rate", x.rate(0, 0), 1);
    }

    @Edge(of = 2, says = {"A SOURCE: its number.", "0 SOURCE: gives r (1 .. 1000000)"})
    private static void sourceOfAMillion() {
        RateTree x = new RateTree();
        Due.due("source(1000000)", x.source(1000000), 0);
        Due.due("rate", x.rate(0, 0), 1000000);
    }

    @Edge(of = 2, says = {"A SOURCE: its number.", "1 NODES, 16 ever, numbered as they come"})
    private static void sourcesToTheSixteenth() {
        RateTree x = new RateTree();
        for (int n = 0; n < 16; n++) {
            Due.due("source", x.source(n + 1), n);
        }
        Due.due("the sixteenth", x.rate(15, 0), 16);
    }

    @Edge(of = 2, says = {"OUTSIDE; FULL.", "1 NODES, 16 ever, numbered as they come"})
    private static void sourceIfFull() {
        Edges.refused(Made::full, x -> x.source(1), FULL);
    }

    @Edge(of = 2, says = {"OUTSIDE; FULL.", "of several the first in the order in which a call's line tells them"})
    private static void sourceOutsideAheadOfFull() {
        Edges.refused(Made::full, x -> x.source(0), OUTSIDE);
    }

    // ---- 3 stage

    @Edge(of = 3, says = "UNKNOWN; OUTSIDE: kind, low, high, low is above high; FULL.")
    private static void stageOfNoNodeAtAll() {
        Edges.refused(Made::empty, x -> x.stage(1, 0, 1, 2), UNKNOWN);
    }

    @Edge(of = 3, says = {"UNKNOWN", "each but a SOURCE of one or two of lesser numbers"})
    private static void stageOfItself() {
        Edges.refused(x -> x.stage(1, Made.NODES, 1, 2), UNKNOWN);
        Edges.refused(x -> x.stage(2, GREATEST, 1, 2), UNKNOWN);
    }

    @Edge(of = 3, says = "UNKNOWN")
    private static void stageOfANodeBelowZero() {
        Edges.refused(x -> x.stage(1, -1, 1, 2), UNKNOWN);
        Edges.refused(x -> x.stage(2, LEAST, 1, 2), UNKNOWN);
    }

    @Edge(of = 3, says = {"A MULTIPLIER (kind 1), DIVIDER (2) of a NODE: its number.",
        "each but a SOURCE of one or two of lesser numbers"})
    private static void stageOfTheLastNode() {
        RateTree x = Made.rich();
        Due.due("a multiplier", x.stage(1, Made.NODES - 1, 1, 2), Made.NODES);
        Due.due("a divider", x.stage(2, Made.NODES, 1, 2), Made.NODES + 1);
    }

    @Edge(of = 3, says = {"OUTSIDE: kind, low, high, low is above high",
        "1 MULTIPLIER: its SETTING times what it is of; 2 DIVIDER: what it is of by its SETTING"})
    private static void stageKindTooSmall() {
        Edges.refused(x -> x.stage(0, 0, 1, 2), OUTSIDE);
        Edges.refused(x -> x.stage(-1, 0, 1, 2), OUTSIDE);
    }

    @Edge(of = 3, says = {"OUTSIDE: kind, low, high, low is above high",
        "1 MULTIPLIER: its SETTING times what it is of; 2 DIVIDER: what it is of by its SETTING"})
    private static void stageKindTooLarge() {
        Edges.refused(x -> x.stage(3, 0, 0, 1), OUTSIDE);
        Edges.refused(x -> x.stage(3, 0, 1, 2), OUTSIDE);
        Edges.refused(x -> x.stage(4, 0, 1, 1), OUTSIDE);
    }

    @Edge(of = 3, says = {"OUTSIDE: kind, low, high, low is above high", "both with SETTINGS low .. high (1 .. 64)"})
    private static void stageLowTooSmall() {
        Edges.refused(x -> x.stage(1, 0, 0, 2), OUTSIDE);
        Edges.refused(x -> x.stage(2, 0, 0, 2), OUTSIDE);
        Edges.refused(x -> x.stage(2, 0, LEAST, 2), OUTSIDE);
    }

    @Edge(of = 3, says = {"OUTSIDE: kind, low, high, low is above high", "both with SETTINGS low .. high (1 .. 64)"})
    private static void stageHighTooSmall() {
        Edges.refused(x -> x.stage(1, 0, 0, 0), OUTSIDE);
        Edges.refused(x -> x.stage(2, 0, -2, -1), OUTSIDE);
    }

    @Edge(of = 3, says = {"OUTSIDE: kind, low, high, low is above high", "both with SETTINGS low .. high (1 .. 64)"})
    private static void stageHighTooLarge() {
        Edges.refused(x -> x.stage(1, 0, 1, 65), OUTSIDE);
        Edges.refused(x -> x.stage(2, 0, 64, 65), OUTSIDE);
        Edges.refused(x -> x.stage(2, 0, 1, GREATEST), OUTSIDE);
    }

    @Edge(of = 3, says = {"OUTSIDE: kind, low, high, low is above high", "both with SETTINGS low .. high (1 .. 64)"})
    private static void stageLowTooLarge() {
        Edges.refused(x -> x.stage(1, 0, 65, 65), OUTSIDE);
        Edges.refused(x -> x.stage(2, 0, GREATEST, GREATEST), OUTSIDE);
    }

    @Edge(of = 3, says = {"low is above high", "both with SETTINGS low .. high (1 .. 64)"})
    private static void stageLowAboveHigh() {
        Edges.refused(x -> x.stage(1, 0, 2, 1), OUTSIDE);
        Edges.refused(x -> x.stage(2, 0, 64, 63), OUTSIDE);
    }

    @Edge(of = 3, says = {"A MULTIPLIER (kind 1), DIVIDER (2) of a NODE: its number.",
        "both with SETTINGS low .. high (1 .. 64)"})
    private static void stageOfOneSettingAtTheLeast() {
        RateTree x = Made.sources(7);
        Due.due("a multiplier", x.stage(1, 0, 1, 1), 1);
        Due.due("a divider", x.stage(2, 0, 1, 1), 2);
        Due.due("the greatest setting", x.about(1, 5), 1);
        Due.due("the greatest setting", x.about(2, 5), 1);
    }

    @Edge(of = 3, says = {"A MULTIPLIER (kind 1), DIVIDER (2) of a NODE: its number.",
        "both with SETTINGS low .. high (1 .. 64)"})
    private static void stageOfOneSettingAtTheMost() {
        RateTree x = Made.sources(128);
        Due.due("a multiplier", x.stage(1, 0, 64, 64), 1);
        Due.due("a divider", x.stage(2, 0, 64, 64), 2);
        Due.due("rate", x.rate(1, 0), 8192);
        Due.due("rate", x.rate(2, 0), 2);
    }

    @Edge(of = 3, says = {"A MULTIPLIER (kind 1), DIVIDER (2) of a NODE: its number.",
        "both with SETTINGS low .. high (1 .. 64)"})
    private static void stageOfAllSettings() {
        RateTree x = Made.sources(128);
        Due.due("a multiplier", x.stage(1, 0, 1, 64), 1);
        Due.due("set to the most", x.set(1, 64), 1);
        Due.due("set to the least", x.set(1, 1), 64);
    }

    @Edge(of = 3, says = {"UNKNOWN; OUTSIDE", "of several the first in the order in which a call's line tells them"})
    private static void stageUnknownAheadOfOutside() {
        Edges.refused(x -> x.stage(3, Made.NODES, 0, 65), UNKNOWN);
    }

    @Edge(of = 3, says = {"UNKNOWN; OUTSIDE: kind, low, high, low is above high; FULL.",
        "of several the first in the order in which a call's line tells them"})
    private static void stageUnknownAheadOfFull() {
        Edges.refused(Made::full, x -> x.stage(1, 16, 1, 1), UNKNOWN);
    }

    @Edge(of = 3, says = {"OUTSIDE: kind, low, high, low is above high; FULL.",
        "of several the first in the order in which a call's line tells them"})
    private static void stageOutsideAheadOfFull() {
        Edges.refused(Made::full, x -> x.stage(3, 0, 1, 1), OUTSIDE);
        Edges.refused(Made::full, x -> x.stage(1, 0, 0, 1), OUTSIDE);
        Edges.refused(Made::full, x -> x.stage(1, 0, 2, 1), OUTSIDE);
    }

    @Edge(of = 3, says = {"FULL", "1 NODES, 16 ever, numbered as they come"})
    private static void stageIfFull() {
        Edges.refused(Made::full, x -> x.stage(1, 0, 1, 1), FULL);
        Edges.refused(Made::full, x -> x.stage(2, 15, 1, 64), FULL);
    }

    @Edge(of = 3, says = {"A MULTIPLIER (kind 1), DIVIDER (2) of a NODE: its number.",
        "1 NODES, 16 ever, numbered as they come"})
    private static void stageAsTheSixteenth() {
        RateTree x = Made.sources(1, 2, 3, 4, 5, 6, 7, 8, 9, 10, 11, 12, 13, 14, 15);
        Due.due("the sixteenth", x.stage(1, 14, 2, 3), 15);
        Due.due("rate", x.rate(15, 0), 30);
    }

    // ---- 4 choice

    @Edge(of = 4, says = "UNKNOWN; FULL.")
    private static void choiceOfNoNodeAtAll() {
        Edges.refused(Made::empty, x -> x.choice(0, 0), UNKNOWN);
    }

    @Edge(of = 4, says = "UNKNOWN")
    private static void choiceOfAFirstThatIsNone() {
        Edges.refused(x -> x.choice(Made.NODES, 0), UNKNOWN);
        Edges.refused(x -> x.choice(-1, 0), UNKNOWN);
        Edges.refused(x -> x.choice(LEAST, 0), UNKNOWN);
    }

    @Edge(of = 4, says = "UNKNOWN")
    private static void choiceOfASecondThatIsNone() {
        Edges.refused(x -> x.choice(0, Made.NODES), UNKNOWN);
        Edges.refused(x -> x.choice(0, -1), UNKNOWN);
        Edges.refused(x -> x.choice(0, GREATEST), UNKNOWN);
    }

    @Edge(of = 4, says = "A CHOICE of two NODES (they may be one): its number.")
    private static void choiceOfOneTwice() {
        RateTree x = Made.sources(7);
        Due.due("choice", x.choice(0, 0), 1);
        Due.due("the first", x.rate(1, 0), 7);
        x.set(1, 1);
        Due.due("the second", x.rate(1, 0), 7);
    }

    @Edge(of = 4, says = {"A CHOICE of two NODES (they may be one): its number.",
        "each but a SOURCE of one or two of lesser numbers"})
    private static void choiceOfTheLastNode() {
        RateTree x = Made.sources(7, 8);
        Due.due("choice", x.choice(1, 0), 2);
        Due.due("choice", x.choice(0, 2), 3);
    }

    @Edge(of = 4, says = {"UNKNOWN; FULL.", "of several the first in the order in which a call's line tells them"})
    private static void choiceUnknownAheadOfFull() {
        Edges.refused(Made::full, x -> x.choice(0, 16), UNKNOWN);
        Edges.refused(Made::full, x -> x.choice(16, 0), UNKNOWN);
    }

    @Edge(of = 4, says = {"FULL", "1 NODES, 16 ever, numbered as they come"})
    private static void choiceIfFull() {
        Edges.refused(Made::full, x -> x.choice(0, 15), FULL);
    }

    @Edge(of = 4, says = {"A CHOICE of two NODES (they may be one): its number.",
        "1 NODES, 16 ever, numbered as they come"})
    private static void choiceAsTheSixteenth() {
        RateTree x = Made.sources(1, 2, 3, 4, 5, 6, 7, 8, 9, 10, 11, 12, 13, 14, 15);
        Due.due("the sixteenth", x.choice(14, 13), 15);
        Due.due("rate", x.rate(15, 0), 15);
    }

    // ---- 5 gate

    @Edge(of = 5, says = "UNKNOWN; FULL.")
    private static void gateOfNoNodeAtAll() {
        Edges.refused(Made::empty, x -> x.gate(0), UNKNOWN);
    }

    @Edge(of = 5, says = {"UNKNOWN", "each but a SOURCE of one or two of lesser numbers"})
    private static void gateOfItself() {
        Edges.refused(x -> x.gate(Made.NODES), UNKNOWN);
        Edges.refused(x -> x.gate(GREATEST), UNKNOWN);
    }

    @Edge(of = 5, says = "UNKNOWN")
    private static void gateOfANodeBelowZero() {
        Edges.refused(x -> x.gate(-1), UNKNOWN);
        Edges.refused(x -> x.gate(LEAST), UNKNOWN);
    }

    @Edge(of = 5, says = {"UNKNOWN; FULL.", "of several the first in the order in which a call's line tells them"})
    private static void gateUnknownAheadOfFull() {
        Edges.refused(Made::full, x -> x.gate(16), UNKNOWN);
    }

    @Edge(of = 5, says = {"FULL", "1 NODES, 16 ever, numbered as they come"})
    private static void gateIfFull() {
        Edges.refused(Made::full, x -> x.gate(15), FULL);
    }

    @Edge(of = 5, says = {"A GATE: its number.", "1 NODES, 16 ever, numbered as they come"})
    private static void gateAsTheSixteenth() {
        RateTree x = Made.sources(1, 2, 3, 4, 5, 6, 7, 8, 9, 10, 11, 12, 13, 14, 15);
        Due.due("the sixteenth", x.gate(14), 15);
        x.set(15, 1);
        Due.due("rate", x.rate(15, 0), 15);
    }

    // ---- terms: settings at first, and those of each kind

    @Edge(of = 0, says = "At first each has its least SETTING.")
    private static void settingsAtFirst() {
        RateTree x = Made.kinds();
        int[] want = {0, 5, 3, 0, 0};
        for (int n = 0; n < 5; n++) {
            Due.due("setting of " + n, x.about(n, 3), want[n]);
        }
    }

    @Edge(of = 0, says = "SETTING 0 alone.")
    private static void sourceHasSettingZeroAlone() {
        Due.due("set(0, 0)", Made.kinds().set(0, 0), 0);
        Edges.refused(x -> x.set(0, 1), OUTSIDE);
        Edges.refused(x -> x.set(0, -1), OUTSIDE);
    }

    @Edge(of = 0, says = "3 CHOICE: SETTING 0: the first of two, 1: the second.")
    private static void choiceHasTwoSettings() {
        RateTree x = Made.kinds();
        Due.due("the first", x.rate(3, 0), 77);
        Due.due("set(3, 1)", x.set(3, 1), 0);
        Due.due("the second", x.rate(3, 0), 385);
        Edges.refused(y -> y.set(4, 2), OUTSIDE);
        Edges.refused(y -> y.set(4, -1), OUTSIDE);
    }

    @Edge(of = 0, says = "4 GATE, a CHOICE: SETTING 0: nothing (0), 1: what it is of.")
    private static void gateHasTwoSettings() {
        RateTree x = Made.kinds();
        Due.due("nothing", x.rate(4, 0), 0);
        Due.due("set(4, 1)", x.set(4, 1), 0);
        Due.due("what it is of", x.rate(4, 0), 77);
        Edges.refused(y -> y.set(5, 2), OUTSIDE);
        Edges.refused(y -> y.set(5, -1), OUTSIDE);
    }

    // ---- 6 limits

    @Edge(of = 6, says = "UNKNOWN; OUTSIDE: floor is above roof, too.")
    private static void limitsOfNoNode() {
        Edges.refused(x -> x.limits(Made.NODES, 0, 1), UNKNOWN);
        Edges.refused(x -> x.limits(-1, 0, 1), UNKNOWN);
        Edges.refused(x -> x.limits(GREATEST, 0, 1), UNKNOWN);
        Edges.refused(x -> x.limits(LEAST, 0, 1), UNKNOWN);
    }

    @Edge(of = 6, says = {"OUTSIDE", "floor, roof (0 .. 1000000000"})
    private static void limitsFloorTooSmall() {
        Edges.refused(x -> x.limits(0, -1, 5), OUTSIDE);
        Edges.refused(x -> x.limits(0, LEAST, 5), OUTSIDE);
    }

    @Edge(of = 6, says = {"OUTSIDE", "floor, roof (0 .. 1000000000"})
    private static void limitsFloorTooLarge() {
        Edges.refused(x -> x.limits(0, MOST + 1, MOST + 1), OUTSIDE);
        Edges.refused(x -> x.limits(0, MOST + 1, MOST), OUTSIDE);
    }

    @Edge(of = 6, says = {"OUTSIDE", "floor, roof (0 .. 1000000000"})
    private static void limitsRoofTooSmall() {
        Edges.refused(x -> x.limits(0, 0, -1), OUTSIDE);
        Edges.refused(x -> x.limits(0, -2, -1), OUTSIDE);
    }

    @Edge(of = 6, says = {"OUTSIDE", "floor, roof (0 .. 1000000000"})
    private static void limitsRoofTooLarge() {
        Edges.refused(x -> x.limits(0, 0, MOST + 1), OUTSIDE);
        Edges.refused(x -> x.limits(0, 0, GREATEST), OUTSIDE);
    }

    @Edge(of = 6, says = "OUTSIDE: floor is above roof, too.")
    private static void limitsFloorAboveRoof() {
        Edges.refused(x -> x.limits(0, 6, 5), OUTSIDE);
        Edges.refused(x -> x.limits(0, MOST, 0), OUTSIDE);
    }

    @Edge(of = 6, says = {"UNKNOWN; OUTSIDE", "of several the first in the order in which a call's line tells them"})
    private static void limitsUnknownAheadOfOutside() {
        Edges.refused(x -> x.limits(Made.NODES, 6, 5), UNKNOWN);
    }

    private static void limitsTaken(int floor, int roof) {
        RateTree x = Made.sources(5, 6);
        Due.due("limits", x.limits(1, floor, roof), 1);
        Due.due("floor", x.about(1, 8), floor);
        Due.due("roof", x.about(1, 9), roof);
        Due.due("floor of another", x.about(0, 8), 0);
        Due.due("roof of another", x.about(0, 9), MOST);
    }

    @Edge(of = 6, says = {"LIMITS of a NODE: 1.", "floor, roof (0 .. 1000000000"})
    private static void limitsLeast() {
        limitsTaken(0, 0);
    }

    @Edge(of = 6, says = {"LIMITS of a NODE: 1.", "floor, roof (0 .. 1000000000"})
    private static void limitsGreatest() {
        limitsTaken(MOST, MOST);
    }

    @Edge(of = 6, says = {"LIMITS of a NODE: 1.", "floor, roof (0 .. 1000000000"})
    private static void limitsWidest() {
        limitsTaken(0, MOST);
    }

    @Edge(of = 6, says = "LIMITS of a NODE: 1.")
    private static void limitsOfOneNumber() {
        limitsTaken(6, 6);
    }

    @Edge(of = 0, says = "LIMITS of a NODE: floor, roof (0 .. 1000000000; 0, 1000000000 at first).")
    private static void limitsAtFirst() {
        RateTree x = Made.kinds();
        for (int n = 0; n < 5; n++) {
            Due.due("floor of " + n, x.about(n, 8), 0);
            Due.due("roof of " + n, x.about(n, 9), MOST);
        }
    }

    // ---- terms: well

    private static void well(RateTree x, int n, int floor, int roof, int want) {
        x.limits(n, floor, roof);
        Due.due("well within " + floor + " .. " + roof, x.about(n, 7), want);
        Due.due("sound", x.sound(), want);
    }

    /** Node 1 gives 10 / 3. */
    private static RateTree tenThirds() {
        RateTree x = Made.sources(10);
        x.stage(2, 0, 3, 3);
        return x;
    }

    @Edge(of = 0, says = "and is 0, or not below its floor, nor above its roof")
    private static void wellAtItsFloor() {
        well(Made.sources(10), 0, 10, 11, 1);
    }

    @Edge(of = 0, says = "and is 0, or not below its floor, nor above its roof")
    private static void notWellBelowItsFloor() {
        well(Made.sources(10), 0, 11, 12, 0);
    }

    @Edge(of = 0, says = "and is 0, or not below its floor, nor above its roof")
    private static void notWellByAFractionBelowItsFloor() {
        well(tenThirds(), 1, 4, 5, 0);
        well(tenThirds(), 1, 3, 5, 1);
    }

    @Edge(of = 0, says = "and is 0, or not below its floor, nor above its roof")
    private static void wellAtItsRoof() {
        well(Made.sources(10), 0, 9, 10, 1);
    }

    @Edge(of = 0, says = "and is 0, or not below its floor, nor above its roof")
    private static void notWellAboveItsRoof() {
        well(Made.sources(10), 0, 8, 9, 0);
    }

    @Edge(of = 0, says = "and is 0, or not below its floor, nor above its roof")
    private static void notWellByAFractionAboveItsRoof() {
        well(tenThirds(), 1, 0, 3, 0);
        well(tenThirds(), 1, 0, 4, 1);
    }

    @Edge(of = 0, says = "and is 0, or not below its floor, nor above its roof")
    private static void wellAtZeroWithAnyFloor() {
        RateTree x = Made.sources(10);
        x.gate(0);
        well(x, 1, MOST, MOST, 1);
        x.stage(1, 1, 2, 2);
        well(x, 2, 1, 1, 1);
    }

    @Edge(of = 0, says = "and is 0, or not below its floor, nor above its roof")
    private static void wellAtZeroWithRoofZero() {
        RateTree x = Made.sources(10);
        x.gate(0);
        well(x, 1, 0, 0, 1);
        x.set(1, 1);
        well(x, 1, 0, 0, 0);
    }

    @Edge(of = 0, says = "It is WELL, if its RATE is not BEYOND")
    private static void notWellBeyondTheWidestLimits() {
        RateTree x = Made.sources(1000000);
        int n = Made.times(x, 0, 64, 16);
        well(x, n, 0, MOST, 0);
    }

    @Edge(of = 0, says = "and is 0, or not below its floor, nor above its roof")
    private static void wellAtTheGreatestRate() {
        RateTree x = Made.sources(1000000);
        int n = Made.times(x, 0, 50, 20);
        well(x, n, MOST, MOST, 1);
    }

    // ---- 7 set

    @Edge(of = 7, says = "UNKNOWN; OUTSIDE: it may not be that; STATE: it is LOCKED.")
    private static void setOfNoNode() {
        Edges.refused(x -> x.set(Made.NODES, 0), UNKNOWN);
        Edges.refused(x -> x.set(-1, 0), UNKNOWN);
        Edges.refused(x -> x.set(LEAST, 0), UNKNOWN);
        Edges.refused(x -> x.set(GREATEST, 0), UNKNOWN);
    }

    @Edge(of = 7, says = "OUTSIDE: it may not be that")
    private static void setBelowTheLeast() {
        Edges.refused(x -> x.set(2, 0), OUTSIDE);
        Edges.refused(x -> x.set(3, LEAST), OUTSIDE);
        Edges.refused(Made::kinds, x -> x.set(1, 4), OUTSIDE);
        Edges.refused(Made::kinds, x -> x.set(2, 2), OUTSIDE);
    }

    @Edge(of = 7, says = "OUTSIDE: it may not be that")
    private static void setAboveTheGreatest() {
        Edges.refused(x -> x.set(2, 5), OUTSIDE);
        Edges.refused(x -> x.set(3, GREATEST), OUTSIDE);
        Edges.refused(Made::kinds, x -> x.set(1, 10), OUTSIDE);
        Edges.refused(Made::kinds, x -> x.set(2, 65), OUTSIDE);
    }

    @Edge(of = 7, says = "A NODE's SETTING becomes v: what it was.")
    private static void setToTheGreatestAndTheLeast() {
        RateTree x = Made.kinds();
        Due.due("to the greatest", x.set(1, 9), 5);
        Due.due("it is", x.about(1, 3), 9);
        Due.due("to the least", x.set(1, 5), 9);
        Due.due("it is", x.about(1, 3), 5);
    }

    @Edge(of = 7, says = "A NODE's SETTING becomes v: what it was.")
    private static void setToWhatItIs() {
        RateTree x = Made.kinds();
        Due.due("set", x.set(2, 3), 3);
        Due.due("it is", x.about(2, 3), 3);
    }

    @Edge(of = 7, says = "STATE: it is LOCKED.")
    private static void setIfLocked() {
        Edges.refused(x -> x.set(6, 0), STATE);
    }

    @Edge(of = 7, says = "STATE: it is LOCKED.")
    private static void setToWhatItIsIfLocked() {
        Edges.refused(x -> x.set(6, 1), STATE);
    }

    @Edge(of = 7, says = {"OUTSIDE: it may not be that; STATE: it is LOCKED.",
        "of several the first in the order in which a call's line tells them"})
    private static void setOutsideAheadOfLocked() {
        Edges.refused(x -> x.set(6, 2), OUTSIDE);
        Edges.refused(x -> x.set(6, -1), OUTSIDE);
    }

    @Edge(of = 7, says = {"UNKNOWN; OUTSIDE: it may not be that",
        "of several the first in the order in which a call's line tells them"})
    private static void setUnknownAheadOfOutside() {
        Edges.refused(x -> x.set(Made.NODES, 65), UNKNOWN);
    }

    @Edge(of = 7, says = "STATE: it is LOCKED.")
    private static void setIfLockedNoMore() {
        RateTree x = Made.rich();
        x.lock(6, false);
        Due.due("set", x.set(6, 0), 1);
        Due.due("it is", x.about(6, 3), 0);
    }

    // ---- 8 lock

    @Edge(of = 8, says = "A NODE is LOCKED, or not: 1; 0: it was so. UNKNOWN.")
    private static void lockOfNoNode() {
        Edges.refused(x -> x.lock(Made.NODES, true), UNKNOWN);
        Edges.refused(x -> x.lock(-1, false), UNKNOWN);
        Edges.refused(x -> x.lock(GREATEST, true), UNKNOWN);
        Edges.refused(x -> x.lock(LEAST, false), UNKNOWN);
    }

    @Edge(of = 8, says = "0: it was so.")
    private static void lockIfLocked() {
        RateTree x = Made.rich();
        Due.due("lock", x.lock(6, true), 0);
        Due.due("it is", x.about(6, 6), 1);
    }

    @Edge(of = 8, says = "0: it was so.")
    private static void unlockIfNotLocked() {
        RateTree x = Made.rich();
        Due.due("lock", x.lock(5, false), 0);
        Due.due("it is not", x.about(5, 6), 0);
    }

    @Edge(of = 8, says = "A NODE is LOCKED, or not: 1")
    private static void lockAndUnlock() {
        RateTree x = Made.rich();
        Due.due("lock", x.lock(5, true), 1);
        Due.due("it is", x.about(5, 6), 1);
        Due.due("unlock", x.lock(5, false), 1);
        Due.due("it is not", x.about(5, 6), 0);
        Due.due("another stays", x.about(6, 6), 1);
    }

    // ---- 9 rate

    @Edge(of = 9, says = "LOST: UNKNOWN, OUTSIDE; it is BEYOND.")
    private static void rateOfNoNode() {
        Edges.refused(x -> x.rate(Made.NODES, 0), LOST);
        Edges.refused(x -> x.rate(-1, 1), LOST);
        Edges.refused(x -> x.rate(GREATEST, 0), LOST);
        Edges.refused(x -> x.rate(LEAST, 0), LOST);
    }

    @Edge(of = 9, says = "LOST: UNKNOWN, OUTSIDE; it is BEYOND.")
    private static void rateWhichTooSmall() {
        Edges.refused(x -> x.rate(0, -1), LOST);
        Edges.refused(x -> x.rate(0, LEAST), LOST);
    }

    @Edge(of = 9, says = "LOST: UNKNOWN, OUTSIDE; it is BEYOND.")
    private static void rateWhichTooLarge() {
        Edges.refused(x -> x.rate(0, 2), LOST);
        Edges.refused(x -> x.rate(0, GREATEST), LOST);
    }

    private static void rate(RateTree x, int n, long upper, long lower) {
        Due.due("upper number of " + n, x.rate(n, 0), upper);
        Due.due("lower number of " + n, x.rate(n, 1), lower);
    }

    @Edge(of = 0, says = "one of which a number is above 1000000000 is BEYOND")
    private static void rateOfJustABillion() {
        RateTree x = Made.sources(1000000);
        rate(x, Made.times(x, 0, 50, 20), MOST, 1);
    }

    @Edge(of = 0, says = "one of which a number is above 1000000000 is BEYOND")
    private static void rateOfABillionAndOne() {
        RateTree x = Made.sources(52579);
        int n = Made.times(x, 0, 19, 13, 11);
        rate(x, n, 142857143, 1);
        rate(x, Made.times(x, n, 7), LOST, LOST);
    }

    @Edge(of = 0, says = "one of which a number is above 1000000000 is BEYOND")
    private static void rateOfABillionth() {
        RateTree x = Made.sources(1);
        rate(x, Made.by(x, 0, 64, 50, 50, 50, 25, 5), 1, MOST);
    }

    /** The least product of settings that is above a billion. */
    @Edge(of = 0, says = "one of which a number is above 1000000000 is BEYOND")
    private static void rateOfLessThanABillionth() {
        RateTree x = Made.sources(1);
        int n = Made.by(x, 0, 57, 47, 47, 38, 19);
        rate(x, n, 1, 90909186);
        rate(x, Made.by(x, n, 11), LOST, LOST);
    }

    @Edge(of = 0, says = "A RATE is a fraction in least terms")
    private static void rateUpperNumberInLeastTermsIsNotBeyond() {
        RateTree x = Made.sources(999999);
        int n = Made.by(x, Made.times(x, 0, 63, 15), 64);
        rate(x, n, 944999055, 64);
        rate(x, Made.times(x, n, 64), 944999055, 1);
    }

    @Edge(of = 0, says = "A RATE is a fraction in least terms")
    private static void rateLowerNumberInLeastTermsIsNotBeyond() {
        RateTree x = Made.sources(64);
        int n = Made.by(x, 0, 45, 45, 45, 45, 45, 5);
        rate(x, n, 64, 922640625);
        rate(x, Made.by(x, n, 64), 1, 922640625);
    }

    @Edge(of = 0, says = "A RATE is a fraction in least terms")
    private static void rateOfZeroInLeastTerms() {
        RateTree x = Made.sources(6);
        int shut = x.gate(Made.by(x, 0, 4));
        rate(x, shut, 0, 1);
        rate(x, Made.by(x, shut, 7), 0, 1);
        rate(x, Made.times(x, shut, 7), 0, 1);
    }

    /** Node 3 gives 63 times 16000000, which is BEYOND; 62 times is not. */
    private static RateTree beyond() {
        RateTree x = Made.sources(1000000, 5);
        x.stage(1, 0, 16, 16);
        x.stage(1, 2, 62, 63);
        x.set(3, 63);
        return x;
    }

    @Edge(of = 0, says = "and so is what comes of it")
    private static void dividerOfBeyond() {
        RateTree x = beyond();
        rate(x, 3, LOST, LOST);
        rate(x, Made.by(x, 3, 64), LOST, LOST);
        rate(x, Made.by(x, 3, 1), LOST, LOST);
        x.set(3, 62);
        rate(x, 4, 15500000, 1);
    }

    @Edge(of = 0, says = "and so is what comes of it")
    private static void multiplierOfBeyond() {
        RateTree x = Made.sources(1);
        int n = Made.by(x, 0, 57, 47, 47, 38, 19, 11);
        rate(x, Made.times(x, n, 64), LOST, LOST);
        rate(x, Made.times(x, n, 57), LOST, LOST);
        rate(x, Made.times(x, n, 1), LOST, LOST);
    }

    @Edge(of = 0, says = "and so is what comes of it")
    private static void openGateOfBeyond() {
        RateTree x = beyond();
        int n = x.gate(3);
        x.set(n, 1);
        rate(x, n, LOST, LOST);
    }

    @Edge(of = 0, says = "a GATE that is 0 gives 0 of it")
    private static void shutGateOfBeyond() {
        RateTree x = beyond();
        int n = x.gate(3);
        rate(x, n, 0, 1);
        Due.due("well", x.about(n, 7), 1);
        rate(x, Made.times(x, n, 5), 0, 1);
    }

    @Edge(of = 0, says = "a CHOICE asks the one that it takes alone")
    private static void choiceThatTakesBeyond() {
        RateTree x = beyond();
        int n = x.choice(3, 1);
        rate(x, n, LOST, LOST);
        int other = x.choice(1, 3);
        x.set(other, 1);
        rate(x, other, LOST, LOST);
    }

    @Edge(of = 0, says = "a CHOICE asks the one that it takes alone")
    private static void choiceThatLeavesBeyond() {
        RateTree x = beyond();
        rate(x, x.choice(1, 3), 5, 1);
        int other = x.choice(3, 1);
        x.set(other, 1);
        rate(x, other, 5, 1);
        Due.due("well", x.about(other, 7), 1);
    }

    // ---- 10 about

    @Edge(of = 10, says = "UNKNOWN; OUTSIDE.")
    private static void aboutNoNode() {
        Edges.refused(x -> x.about(Made.NODES, 0), UNKNOWN);
        Edges.refused(x -> x.about(-1, 0), UNKNOWN);
        Edges.refused(x -> x.about(GREATEST, 0), UNKNOWN);
        Edges.refused(x -> x.about(LEAST, 0), UNKNOWN);
    }

    @Edge(of = 10, says = "OUTSIDE")
    private static void aboutWhatTooSmall() {
        Edges.refused(x -> x.about(0, -1), OUTSIDE);
        Edges.refused(x -> x.about(0, LEAST), OUTSIDE);
    }

    @Edge(of = 10, says = "OUTSIDE")
    private static void aboutWhatTooLarge() {
        Edges.refused(x -> x.about(0, 10), OUTSIDE);
        Edges.refused(x -> x.about(0, GREATEST), OUTSIDE);
    }

    @Edge(of = 10, says = {"UNKNOWN; OUTSIDE.", "of several the first in the order in which a call's line tells them"})
    private static void aboutUnknownAheadOfOutside() {
        Edges.refused(x -> x.about(Made.NODES, 10), UNKNOWN);
        Edges.refused(x -> x.about(-1, -1), UNKNOWN);
    }

    @Edge(of = 10, says = "Of a NODE: 0 kind")
    private static void aboutTheLeastWhat() {
        RateTree x = Made.kinds();
        for (int n = 0; n < 5; n++) {
            Due.due("kind of " + n, x.about(n, 0), n);
        }
    }

    @Edge(of = 10, says = "8, 9 floor, roof")
    private static void aboutTheGreatestWhat() {
        RateTree x = Made.rich();
        Due.due("floor", x.about(3, 8), 100);
        Due.due("roof", x.about(3, 9), 2400);
    }

    @Edge(of = 10, says = "1, 2 the NODES that it is of (NONE)")
    private static void aboutNodesThatItIsOf() {
        RateTree x = Made.kinds();
        int[][] want = {{NONE, NONE}, {0, NONE}, {0, NONE}, {0, 1}, {0, NONE}};
        for (int n = 0; n < 5; n++) {
            Due.due("the first of " + n, x.about(n, 1), want[n][0]);
            Due.due("the second of " + n, x.about(n, 2), want[n][1]);
        }
    }

    @Edge(of = 10, says = "4, 5 the least, the greatest that it may be")
    private static void aboutSettings() {
        RateTree x = Made.kinds();
        int[][] want = {{0, 0}, {5, 9}, {3, 64}, {0, 1}, {0, 1}};
        for (int n = 0; n < 5; n++) {
            Due.due("the least of " + n, x.about(n, 4), want[n][0]);
            Due.due("the greatest of " + n, x.about(n, 5), want[n][1]);
        }
    }

    @Edge(of = 10, says = "7 whether it is WELL")
    private static void aboutABeyondNode() {
        RateTree x = beyond();
        Due.due("what it is of", x.about(2, 7), 1);
        Due.due("BEYOND", x.about(3, 7), 0);
        Due.due("its setting", x.about(3, 3), 63);
    }

    // ---- 11 sound

    @Edge(of = 11, says = "Whether all are SOUND: 1, 0.")
    private static void soundWithoutNodes() {
        Due.due("sound()", new RateTree().sound(), 1);
    }

    @Edge(of = 0, says = "All are SOUND, if each is WELL.")
    private static void soundButForTheFirst() {
        RateTree x = Made.sources(10, 20, 30);
        x.limits(0, 11, 12);
        Due.due("sound()", x.sound(), 0);
    }

    @Edge(of = 0, says = "All are SOUND, if each is WELL.")
    private static void soundButForTheLast() {
        RateTree x = Made.full();
        Due.due("sound()", x.sound(), 1);
        x.limits(15, 0, 14);
        Due.due("sound()", x.sound(), 0);
    }

    @Edge(of = 0, says = "All are SOUND, if each is WELL.")
    private static void notSoundThoughNothingTakesIt() {
        RateTree x = beyond();
        x.gate(3);
        x.choice(1, 3);
        Due.due("sound()", x.sound(), 0);
        x.set(3, 62);
        Due.due("sound()", x.sound(), 1);
    }

    // ---- 12 power

    @Edge(of = 12, says = "POWER.")
    private static void powerWithoutNodes() {
        Due.due("power()", new RateTree().power(), 0);
    }

    @Edge(of = 0, says = "the sum of all RATES, each cut")
    private static void powerOfRatesEachCut() {
        RateTree x = Made.sources(5);
        Made.by(x, 0, 3);
        Made.by(x, 0, 3);
        Made.by(x, 0, 6);
        Due.due("5 + 5/3 + 5/3 + 5/6", x.power(), 7);
    }

    @Edge(of = 12, says = "POWER.")
    private static void powerAboveAnInt() {
        RateTree x = Made.sources(1000000);
        Made.times(x, 0, 50, 20, 1, 1, 1);
        Due.due("power()", x.power(), 4051000000L);
    }

    @Edge(of = 12, says = "LOST: one RATE is BEYOND.")
    private static void powerWithOneBeyond() {
        Edges.refused(NodeEdgesTest::beyond, RateTree::power, LOST);
    }

    @Edge(of = 12, says = "LOST: one RATE is BEYOND.")
    private static void powerWithOneBeyondThatNothingTakes() {
        RateTree x = beyond();
        x.gate(3);
        x.choice(1, 3);
        Due.due("power()", x.power(), LOST);
        x.set(3, 62);
        Due.due("power()", x.power(), 1000000 + 5 + 16000000 + 992000000 + 5);
    }

    @Edge(of = 12, says = "POWER.")
    private static void powerOfWhatIsNotWell() {
        RateTree x = Made.sources(10, 20);
        x.limits(0, 0, 9);
        Due.due("power()", x.power(), 30);
    }
}
