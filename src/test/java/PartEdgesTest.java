/** Promises 30 to 33 and 35: each boundary case that the document names for parts, by a test of its own. */
public final class PartEdgesTest {
    private static final int UNKNOWN = RateTree.UNKNOWN, OUTSIDE = RateTree.OUTSIDE, NONE = RateTree.NONE;
    private static final int LEAST = Integer.MIN_VALUE, GREATEST = Integer.MAX_VALUE;

    public static void main(String[] args) throws Exception {
        Edges.run(PartEdgesTest.class);
    }

    private static void trace(RateTree x, int want) {
        Due.due("trace()", x.trace(), want);
    }

    // ---- 30 tell

    @Edge(of = 30, says = "TELLING of a NODE. UNKNOWN.")
    private static void tellNoNode() {
        Edges.refused(Made::empty, x -> x.tell(0), UNKNOWN);
        Edges.refused(x -> x.tell(Made.NODES), UNKNOWN);
        Edges.refused(x -> x.tell(-1), UNKNOWN);
        Edges.refused(x -> x.tell(GREATEST), UNKNOWN);
        Edges.refused(x -> x.tell(LEAST), UNKNOWN);
        Edges.refused(Made::full, x -> x.tell(16), UNKNOWN);
    }

    @Edge(of = 0, says = "SOURCE (1): its r.")
    private static void tellSources() {
        RateTree x = Made.sources(1, 1000000);
        Due.due("the least", x.tell(0), 1);
        Due.due("the greatest", x.tell(1), 1000000);
        trace(x, 1 * 31 + 1);
    }

    @Edge(of = 0, says = "MULTIPLIER (2): its SETTING.")
    private static void tellMultipliers() {
        RateTree x = Made.sources(1);
        x.stage(1, 0, 1, 64);
        Due.due("the least", x.tell(1), 1);
        x.set(1, 64);
        Due.due("the greatest", x.tell(1), 64);
        trace(x, 2 * 31 + 2);
    }

    @Edge(of = 0, says = "DIVIDER (3): its contrary.")
    private static void tellDividers() {
        RateTree x = Made.sources(1);
        x.stage(2, 0, 1, 64);
        Due.due("the least", x.tell(1), -1);
        x.set(1, 64);
        Due.due("the greatest", x.tell(1), -64);
        trace(x, 3 * 31 + 3);
    }

    @Edge(of = 0, says = "CHOICE (4): 100 and its SETTING.")
    private static void tellChoices() {
        RateTree x = Made.sources(1);
        x.choice(0, 0);
        Due.due("the first", x.tell(1), 100);
        x.set(1, 1);
        Due.due("the second", x.tell(1), 101);
        trace(x, 4 * 31 + 4);
    }

    @Edge(of = 0, says = "GATE (5): what CHOICE's gives, twice.")
    private static void tellGates() {
        RateTree x = Made.sources(1);
        x.gate(0);
        Due.due("shut", x.tell(1), 200);
        trace(x, 5 * 31 + 4);
        x.set(1, 1);
        Due.due("open", x.tell(1), 202);
        trace(x, ((5 * 31 + 4) * 31 + 5) * 31 + 4);
    }

    @Edge(of = 30, says = "TELLING of a NODE.")
    private static void tellANodeThatIsBeyond() {
        RateTree x = Made.sources(1000000);
        int n = Made.times(x, 0, 64, 64);
        Due.due("rate", x.rate(n, 0), RateTree.LOST);
        Due.due("tell", x.tell(n), 64);
    }

    // ---- 31 spread

    @Edge(of = 31, says = "How it is SPREAD. UNKNOWN.")
    private static void spreadOfNoNode() {
        Edges.refused(Made::empty, x -> x.spread(0), UNKNOWN);
        Edges.refused(x -> x.spread(Made.NODES), UNKNOWN);
        Edges.refused(x -> x.spread(-1), UNKNOWN);
        Edges.refused(x -> x.spread(GREATEST), UNKNOWN);
        Edges.refused(x -> x.spread(LEAST), UNKNOWN);
        Edges.refused(Made::full, x -> x.spread(16), UNKNOWN);
    }

    @Edge(of = 0, says = "SPREAD by a lent body (6): how many SETTINGS it may have")
    private static void spreadFromOneToSixtyFour() {
        RateTree x = Made.sources(1);
        x.stage(1, 0, 64, 64);
        x.stage(2, 0, 1, 64);
        x.choice(0, 0);
        Due.due("a source", x.spread(0), 1);
        Due.due("one", x.spread(1), 1);
        Due.due("all", x.spread(2), 64);
        Due.due("a choice", x.spread(3), 2);
        trace(x, ((6 * 31 + 6) * 31 + 6) * 31 + 6);
    }

    @Edge(of = 0, says = "SPREAD by a lent body (6): how many SETTINGS it may have")
    private static void spreadOfLockedNodesThatAreNoGates() {
        RateTree x = Made.kinds();
        int[] want = {1, 5, 62, 2};
        for (int n = 0; n < 4; n++) {
            x.lock(n, true);
            Due.due("spread(" + n + ")", x.spread(n), want[n]);
        }
        trace(x, ((6 * 31 + 6) * 31 + 6) * 31 + 6);
    }

    @Edge(of = 0, says = "a GATE has its own (7): 0, if it is LOCKED, else what the lent one tells")
    private static void spreadOfALockedGate() {
        RateTree x = Made.kinds();
        x.lock(4, true);
        Due.due("spread(4)", x.spread(4), 0);
        trace(x, 7);
    }

    @Edge(of = 0, says = "a GATE has its own (7): 0, if it is LOCKED, else what the lent one tells")
    private static void spreadOfAGateThatIsNotLocked() {
        RateTree x = Made.kinds();
        Due.due("spread(4)", x.spread(4), 2);
        trace(x, 7 * 31 + 6);
    }

    // ---- 32 as

    @Edge(of = 32, says = "UNKNOWN; OUTSIDE: kind is not 0 .. 4; CAST: it is none")
    private static void asOfNoNode() {
        Edges.faulted(x -> x.as(Made.NODES, 0), UNKNOWN, 0);
        Edges.faulted(x -> x.as(-1, 0), UNKNOWN, 0);
        Edges.faulted(x -> x.as(GREATEST, 0), UNKNOWN, 0);
        Edges.faulted(x -> x.as(LEAST, 0), UNKNOWN, 0);
    }

    @Edge(of = 32, says = "OUTSIDE: kind is not 0 .. 4")
    private static void asOfAKindTooSmall() {
        Edges.faulted(x -> x.as(0, -1), OUTSIDE, 0);
        Edges.faulted(x -> x.as(0, LEAST), OUTSIDE, 0);
    }

    @Edge(of = 32, says = "OUTSIDE: kind is not 0 .. 4")
    private static void asOfAKindTooLarge() {
        Edges.faulted(x -> x.as(5, 5), OUTSIDE, 0);
        Edges.faulted(x -> x.as(0, GREATEST), OUTSIDE, 0);
    }

    @Edge(of = 32, says = {"UNKNOWN; OUTSIDE: kind is not 0 .. 4",
        "of several the first in the order in which a call's line tells them"})
    private static void asUnknownAheadOfOutside() {
        Edges.faulted(x -> x.as(Made.NODES, 5), UNKNOWN, 0);
    }

    @Edge(of = 32, says = "CAST: it is none")
    private static void asOfAnotherKind() {
        int[] nodes = {0, 2, 3, 4};
        for (int is = 0; is < 4; is++) {
            for (int kind = 0; kind < 5; kind++) {
                int n = nodes[is];
                int as = kind;
                if (is != kind) {
                    Edges.faulted(x -> x.as(n, as), -12, 2);
                }
            }
        }
    }

    @Edge(of = 32, says = "A NODE, taken as one of a kind: 1.")
    private static void asOfItsOwnKind() {
        RateTree x = Made.kinds();
        for (int n = 0; n < 5; n++) {
            x.put(0, 0, 0);
            Due.due("as(" + n + ", " + n + ")", x.as(n, n), 1);
            Due.due("fault()", x.fault(), 0);
        }
    }

    @Edge(of = 32, says = "(a GATE is a CHOICE, too)")
    private static void asOfAGate() {
        RateTree x = Made.kinds();
        Due.due("a gate is a choice", x.as(4, 3), 1);
        Due.due("fault()", x.fault(), 0);
        Due.due("no source", x.as(4, 0), -12);
        Due.due("no multiplier", x.as(4, 1), -12);
        Due.due("no divider", x.as(4, 2), -12);
    }

    @Edge(of = 32, says = "(a GATE is a CHOICE, too)")
    private static void asOfAChoiceThatIsNoGate() {
        Edges.faulted(x -> x.as(4, 4), -12, 2);
    }

    // ---- 33 trace

    @Edge(of = 33, says = "TRACE.")
    private static void traceAtFirst() {
        trace(new RateTree(), 0);
        RateTree x = Made.sources(1);
        x.tell(1);
        x.spread(-1);
        trace(x, 0);
    }

    @Edge(of = 0, says = "TRACE (an int that wraps, 0 at first, becomes 31 times it and the number)")
    private static void traceWraps() {
        RateTree x = Made.sources(1);
        for (int i = 0; i < 7; i++) {
            x.tell(0);
        }
        trace(x, 917087137);
        x.tell(0);
        Due.holds("31 times it is above all ints", 31L * 917087137 + 1 > GREATEST);
        trace(x, (int) (31L * 917087137 + 1));
    }

    @Edge(of = 0, says = "TRACE (an int that wraps, 0 at first, becomes 31 times it and the number)")
    private static void traceWrapsBelowZero() {
        RateTree x = Made.sources(1);
        x.gate(0);
        for (int i = 0; i < 6; i++) {
            x.spread(0);
        }
        trace(x, 177500736);
        x.spread(1);
        long seventh = 31L * 177500736 + 7;
        trace(x, (int) (31L * (int) seventh + 6));
    }

    @Edge(of = 0, says = "as they begin")
    private static void traceIsLeftByBodiesAlone() {
        RateTree x = Made.kinds();
        x.as(4, 3);
        x.about(4, 0);
        x.rate(4, 0);
        x.search(0);
        x.change();
        trace(x, 0);
    }

    // ---- 35 told

    @Edge(of = 35, says = "OUTSIDE")
    private static void toldWhatTooSmall() {
        Edges.refused(x -> x.told(-1), OUTSIDE);
        Edges.refused(x -> x.told(LEAST), OUTSIDE);
    }

    @Edge(of = 35, says = "OUTSIDE")
    private static void toldWhatTooLarge() {
        Edges.refused(x -> x.told(6), OUTSIDE);
        Edges.refused(x -> x.told(GREATEST), OUTSIDE);
    }

    @Edge(of = 35, says = "0 NODES, 1 WISHES, 2 of them MET")
    private static void toldOfAFullObject() {
        RateTree x = Made.full();
        Due.due("nodes", x.told(0), 16);
        Due.due("wishes", x.told(1), 12);
    }

    @Edge(of = 35, says = "0 NODES, 1 WISHES, 2 of them MET")
    private static void toldOfWishesMetInAllModes() {
        RateTree x = Made.sources(10, 20);
        for (int mode = 0; mode < 3; mode++) {
            x.wish(mode, 0, 10, 1, 0);
            x.multiple(mode, 1, 0, 2);
            x.wish(mode, 0, 11, 1, 89);
            x.wish(mode, 0, 11, 1, 90);
        }
        Due.due("wishes", x.told(1), 12);
        Due.due("met", x.told(2), 9);
    }

    @Edge(of = 35, says = "0 NODES, 1 WISHES, 2 of them MET")
    private static void toldOfWishesMetAsSettingsAre() {
        RateTree x = Made.sources(10);
        x.gate(0);
        x.wish(0, 1, 10, 1, 999);
        Due.due("shut", x.told(2), 0);
        x.set(1, 1);
        Due.due("open", x.told(2), 1);
    }

    private static void rows(int want, int... settings) {
        RateTree x = Made.sources(1);
        for (int many : settings) {
            x.stage(2, 0, 1, many);
        }
        Due.due("told(3)", x.told(3), want);
    }

    @Edge(of = 35, says = "3 rows of SETTINGS for a SEARCH as it is (1000000 at most)")
    private static void toldOfAMillionRowsAtMost() {
        rows(999999, 63, 39, 37, 11);
        rows(1000000, 64, 25, 25, 25);
        rows(1000000, 57, 51, 43, 8);
        rows(1000000, 64, 64, 64, 64);
    }

    @Edge(of = 35, says = "3 rows of SETTINGS for a SEARCH as it is (1000000 at most)")
    private static void toldOfRowsBeyondAllInts() {
        rows(1000000, 64, 64, 64, 64, 64, 2);
        rows(1000000, 64, 64, 64, 64, 64, 4);
        rows(1000000, 64, 64, 64, 64, 64, 64, 64, 64, 64, 64, 64);
        rows(1000000, 64, 64, 64, 64, 64, 64, 64, 64, 64, 64, 64, 64, 64, 64, 64);
    }

    @Edge(of = 35, says = "3 rows of SETTINGS for a SEARCH as it is (1000000 at most)")
    private static void toldOfOneRow() {
        Due.due("no nodes", new RateTree().told(3), 1);
        Due.due("sources alone", Made.sources(1, 2).told(3), 1);
        RateTree x = Made.kinds();
        for (int n = 0; n < 5; n++) {
            x.lock(n, true);
        }
        Due.due("all locked", x.told(3), 1);
    }

    @Edge(of = 35, says = "3 rows of SETTINGS for a SEARCH as it is (1000000 at most)")
    private static void toldOfRowsWithLockedNodes() {
        RateTree x = Made.kinds();
        Due.due("none", x.told(3), 5 * 62 * 2 * 2);
        x.lock(2, true);
        Due.due("one", x.told(3), 5 * 2 * 2);
        x.lock(4, true);
        Due.due("two", x.told(3), 5 * 2);
    }

    @Edge(of = 35, says = "4 NODES whose SETTING is other in the PLAN (NONE: no PLAN)")
    private static void toldOfOthersWithoutAPlan() {
        Due.due("new", new RateTree().told(4), NONE);
        RateTree x = Made.rich();
        x.search(2);
        Due.due("the plan is gone", x.told(4), NONE);
    }

    @Edge(of = 35, says = "4 NODES whose SETTING is other in the PLAN (NONE: no PLAN)")
    private static void toldOfOthers() {
        RateTree x = Made.rich();
        Due.due("three", x.told(4), 3);
        x.set(2, 4);
        Due.due("two", x.told(4), 2);
        x.set(4, 1);
        Due.due("another one", x.told(4), 3);
        x.lock(3, true);
        Due.due("a locked one, too", x.told(4), 3);
        x.gate(0);
        Due.due("not one that came behind it", x.told(4), 3);
    }

    @Edge(of = 35, says = "4 NODES whose SETTING is other in the PLAN (NONE: no PLAN)")
    private static void toldOfNoOthers() {
        RateTree x = Made.rich();
        x.go();
        Due.due("told(4)", x.told(4), 0);
    }

    @Edge(of = 35, says = "5 STEPS of the CHANGE found (NONE: none is).")
    private static void toldOfStepsWithoutAChange() {
        Due.due("new", new RateTree().told(5), NONE);
        RateTree x = Made.rich();
        x.go();
        Due.due("done", x.told(5), NONE);
    }

    @Edge(of = 35, says = "5 STEPS of the CHANGE found (NONE: none is).")
    private static void toldOfNoSteps() {
        RateTree x = Made.rich();
        x.go();
        x.change();
        Due.due("found, of no steps", x.told(5), 0);
    }

    // ---- terms: refusals

    @Edge(of = 0, says = {"UNKNOWN (there is no such NODE, WISH, MODE, SHEET, place)",
        "OUTSIDE (another number is not as told), STATE (as told), FULL, SPENT (-6: as told)"})
    private static void refusalsAsTheyAreNumbered() {
        Due.due("UNKNOWN: a node", Made.rich().tell(Made.NODES), -1);
        Due.due("UNKNOWN: a wish", Made.rich().miss(Made.WISHES), -1);
        Due.due("UNKNOWN: a mode", Made.rich().search(3), -1);
        Due.due("UNKNOWN: a sheet", Made.rich().lose(4), -1);
        Due.due("UNKNOWN: a place", Made.rich().step(3), -1);
        Due.due("OUTSIDE", Made.rich().told(6), -2);
        Due.due("STATE", Made.kinds().change(), -3);
        Due.due("FULL", Made.full().source(1), -4);
        Due.due("SPENT", Made.spent().search(0), -6);
    }

    @Edge(of = 0, says = "NONE is -9.")
    private static void noneAsItIsNumbered() {
        Due.due("told(5)", new RateTree().told(5), -9);
        Due.due("about(0, 1)", Made.kinds().about(0, 1), -9);
        Due.due("search(2)", Made.rich().search(2), -9);
    }

    @Edge(of = 0, says = "They change nothing (but fault(), of a call that names FAULTS).")
    private static void refusalOfACallThatNamesFaults() {
        Edges.faulted(x -> x.as(Made.NODES, 0), UNKNOWN, 0);
        Edges.faulted(x -> x.plan(4, 1, 1), UNKNOWN, 0);
        Edges.faulted(x -> x.sheet(0, 0, 25), OUTSIDE, 0);
        Edges.faulted(x -> x.put(4, 0, 1), UNKNOWN, 0);
        Edges.faulted(x -> x.cell(0, 0, 3), RateTree.LOST, 0);
        Edges.faulted(x -> x.copy(0, 0, 4, 0, 0), UNKNOWN, 0);
    }

    @Edge(of = 0, says = "They change nothing (but fault(), of a call that names FAULTS).")
    private static void refusalOfACallThatNamesNoFaults() {
        Edges.refused(x -> x.lose(4), UNKNOWN);
        Edges.refused(x -> x.tell(-1), UNKNOWN);
        Edges.refused(x -> x.spread(-1), UNKNOWN);
        Edges.refused(x -> x.told(6), OUTSIDE);
        Edges.refused(x -> x.set(6, 0), RateTree.STATE);
    }
}
