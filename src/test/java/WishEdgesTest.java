/** Promises 13 to 19 and 21: each boundary case that the document names for wishes, searches, by a test of its own. */
public final class WishEdgesTest {
    private static final int UNKNOWN = RateTree.UNKNOWN, OUTSIDE = RateTree.OUTSIDE, STATE = RateTree.STATE;
    private static final int FULL = RateTree.FULL, SPENT = RateTree.SPENT, NONE = RateTree.NONE;
    private static final int LEAST = Integer.MIN_VALUE, GREATEST = Integer.MAX_VALUE;

    public static void main(String[] args) throws Exception {
        Edges.run(WishEdgesTest.class);
    }

    // ---- 13 wish

    @Edge(of = 13, says = {"UNKNOWN: MODE, NODE; OUTSIDE; FULL.", "MODES 0 .. 2."})
    private static void wishOfAModeTooSmall() {
        Edges.refused(x -> x.wish(-1, 0, 1, 1, 0), UNKNOWN);
        Edges.refused(x -> x.wish(LEAST, 0, 1, 1, 0), UNKNOWN);
    }

    @Edge(of = 13, says = {"UNKNOWN: MODE, NODE; OUTSIDE; FULL.", "MODES 0 .. 2."})
    private static void wishOfAModeTooLarge() {
        Edges.refused(x -> x.wish(3, 0, 1, 1, 0), UNKNOWN);
        Edges.refused(x -> x.wish(GREATEST, 0, 1, 1, 0), UNKNOWN);
    }

    @Edge(of = 13, says = "UNKNOWN: MODE, NODE")
    private static void wishForNoNode() {
        Edges.refused(Made::empty, x -> x.wish(0, 0, 1, 1, 0), UNKNOWN);
        Edges.refused(x -> x.wish(0, Made.NODES, 1, 1, 0), UNKNOWN);
        Edges.refused(x -> x.wish(0, -1, 1, 1, 0), UNKNOWN);
    }

    @Edge(of = 13, says = {"OUTSIDE", "0 a RATE a / b (a 1 .. 1000000, b 1 .. 1000)"})
    private static void wishWithATooSmall() {
        Edges.refused(x -> x.wish(0, 0, 0, 1, 0), OUTSIDE);
        Edges.refused(x -> x.wish(0, 0, LEAST, 1, 0), OUTSIDE);
    }

    @Edge(of = 13, says = {"OUTSIDE", "0 a RATE a / b (a 1 .. 1000000, b 1 .. 1000)"})
    private static void wishWithATooLarge() {
        Edges.refused(x -> x.wish(0, 0, 1000001, 1, 0), OUTSIDE);
        Edges.refused(x -> x.wish(0, 0, GREATEST, 1, 0), OUTSIDE);
    }

    @Edge(of = 13, says = {"OUTSIDE", "0 a RATE a / b (a 1 .. 1000000, b 1 .. 1000)"})
    private static void wishWithBTooSmall() {
        Edges.refused(x -> x.wish(0, 0, 1, 0, 0), OUTSIDE);
        Edges.refused(x -> x.wish(0, 0, 1, LEAST, 0), OUTSIDE);
    }

    @Edge(of = 13, says = {"OUTSIDE", "0 a RATE a / b (a 1 .. 1000000, b 1 .. 1000)"})
    private static void wishWithBTooLarge() {
        Edges.refused(x -> x.wish(0, 0, 1, 1001, 0), OUTSIDE);
        Edges.refused(x -> x.wish(0, 0, 1, GREATEST, 0), OUTSIDE);
    }

    @Edge(of = 13, says = {"OUTSIDE", "a MISS e allowed (0 .. 999, 1000ths)"})
    private static void wishWithETooSmall() {
        Edges.refused(x -> x.wish(0, 0, 1, 1, -1), OUTSIDE);
        Edges.refused(x -> x.wish(0, 0, 1, 1, LEAST), OUTSIDE);
    }

    @Edge(of = 13, says = {"OUTSIDE", "a MISS e allowed (0 .. 999, 1000ths)"})
    private static void wishWithETooLarge() {
        Edges.refused(x -> x.wish(0, 0, 1, 1, 1000), OUTSIDE);
        Edges.refused(x -> x.wish(0, 0, 1, 1, GREATEST), OUTSIDE);
    }

    @Edge(of = 13, says = {"A WISH for a RATE: its number.",
        "0 a RATE a / b (a 1 .. 1000000, b 1 .. 1000)",
        "a MISS e allowed (0 .. 999, 1000ths)"})
    private static void wishOfTheLeastNumbers() {
        RateTree x = Made.sources(5);
        Due.due("wish", x.wish(0, 0, 1, 1, 0), 0);
        wished(x, 0, 0, 0, 0, 1, 1, 0);
    }

    @Edge(of = 13, says = {"A WISH for a RATE: its number.",
        "0 a RATE a / b (a 1 .. 1000000, b 1 .. 1000)",
        "a MISS e allowed (0 .. 999, 1000ths)"})
    private static void wishOfTheGreatestNumbers() {
        RateTree x = Made.sources(5, 6);
        Due.due("wish", x.wish(2, 1, 1000000, 1000, 999), 0);
        wished(x, 0, 0, 2, 1, 1000000, 1000, 999);
    }

    private static void wished(RateTree x, int w, int... want) {
        for (int what = 0; what < want.length; what++) {
            Due.due("wished(" + w + ", " + what + ")", x.wished(w, what), want[what]);
        }
    }

    @Edge(of = 13, says = {"UNKNOWN: MODE, NODE; OUTSIDE",
        "of several the first in the order in which a call's line tells them"})
    private static void wishUnknownAheadOfOutside() {
        Edges.refused(x -> x.wish(3, 0, 0, 1, 0), UNKNOWN);
        Edges.refused(x -> x.wish(0, Made.NODES, 1, 1, 1000), UNKNOWN);
    }

    @Edge(of = 13, says = {"UNKNOWN: MODE, NODE; OUTSIDE; FULL.",
        "of several the first in the order in which a call's line tells them"})
    private static void wishUnknownAheadOfFull() {
        Edges.refused(Made::full, x -> x.wish(3, 0, 1, 1, 0), UNKNOWN);
        Edges.refused(Made::full, x -> x.wish(0, 16, 1, 1, 0), UNKNOWN);
    }

    @Edge(of = 13, says = {"OUTSIDE; FULL.", "of several the first in the order in which a call's line tells them"})
    private static void wishOutsideAheadOfFull() {
        Edges.refused(Made::full, x -> x.wish(0, 0, 0, 1, 0), OUTSIDE);
        Edges.refused(Made::full, x -> x.wish(0, 0, 1, 1001, 0), OUTSIDE);
        Edges.refused(Made::full, x -> x.wish(0, 0, 1, 1, 1000), OUTSIDE);
    }

    @Edge(of = 13, says = {"FULL", "WISHES, 12 ever"})
    private static void wishIfFull() {
        Edges.refused(Made::full, x -> x.wish(0, 0, 1, 1, 0), FULL);
    }

    @Edge(of = 0, says = "WISHES, 12 ever, numbered as they come")
    private static void wishesOfAllModesToTheTwelfth() {
        RateTree x = Made.sources(5, 6);
        for (int w = 0; w < 12; w++) {
            Due.due("wish", w % 2 == 0 ? x.wish(w % 3, 0, w + 1, 1, 0) : x.multiple(w % 3, 0, 1, w + 1), w);
        }
        wished(x, 11, 1, 2, 0, 1, 12, 0);
        Due.due("the thirteenth", x.wish(1, 0, 1, 1, 0), FULL);
    }

    // ---- 14 multiple

    @Edge(of = 14, says = {"UNKNOWN: MODE, NODES; OUTSIDE: k, both are one; FULL.", "MODES 0 .. 2."})
    private static void multipleOfAModeTooSmall() {
        Edges.refused(x -> x.multiple(-1, 0, 1, 1), UNKNOWN);
        Edges.refused(x -> x.multiple(LEAST, 0, 1, 1), UNKNOWN);
    }

    @Edge(of = 14, says = {"UNKNOWN: MODE, NODES; OUTSIDE: k, both are one; FULL.", "MODES 0 .. 2."})
    private static void multipleOfAModeTooLarge() {
        Edges.refused(x -> x.multiple(3, 0, 1, 1), UNKNOWN);
        Edges.refused(x -> x.multiple(GREATEST, 0, 1, 1), UNKNOWN);
    }

    @Edge(of = 14, says = "UNKNOWN: MODE, NODES")
    private static void multipleForNoNode() {
        Edges.refused(x -> x.multiple(0, Made.NODES, 0, 1), UNKNOWN);
        Edges.refused(x -> x.multiple(0, -1, 0, 1), UNKNOWN);
    }

    @Edge(of = 14, says = "UNKNOWN: MODE, NODES")
    private static void multipleOfNoNode() {
        Edges.refused(x -> x.multiple(0, 0, Made.NODES, 1), UNKNOWN);
        Edges.refused(x -> x.multiple(0, 0, -1, 1), UNKNOWN);
    }

    @Edge(of = 14, says = {"OUTSIDE: k, both are one",
        "1 its RATE is k (1 .. 100) times that of another NODE, exactly"})
    private static void multipleWithKTooSmall() {
        Edges.refused(x -> x.multiple(0, 1, 0, 0), OUTSIDE);
        Edges.refused(x -> x.multiple(0, 1, 0, LEAST), OUTSIDE);
    }

    @Edge(of = 14, says = {"OUTSIDE: k, both are one",
        "1 its RATE is k (1 .. 100) times that of another NODE, exactly"})
    private static void multipleWithKTooLarge() {
        Edges.refused(x -> x.multiple(0, 1, 0, 101), OUTSIDE);
        Edges.refused(x -> x.multiple(0, 1, 0, GREATEST), OUTSIDE);
    }

    @Edge(of = 14, says = "both are one")
    private static void multipleOfItself() {
        Edges.refused(x -> x.multiple(0, 0, 0, 1), OUTSIDE);
        Edges.refused(x -> x.multiple(0, 6, 6, 100), OUTSIDE);
    }

    @Edge(of = 14, says = {"A WISH for a multiple: its number.",
        "1 its RATE is k (1 .. 100) times that of another NODE, exactly"})
    private static void multipleWithTheLeastK() {
        RateTree x = Made.sources(5, 6);
        Due.due("multiple", x.multiple(0, 0, 1, 1), 0);
        wished(x, 0, 1, 0, 0, 1, 1, 0);
    }

    @Edge(of = 14, says = {"A WISH for a multiple: its number.",
        "1 its RATE is k (1 .. 100) times that of another NODE, exactly"})
    private static void multipleWithTheGreatestK() {
        RateTree x = Made.sources(500, 5);
        Due.due("multiple", x.multiple(2, 0, 1, 100), 0);
        wished(x, 0, 1, 2, 0, 1, 100, 0);
        Due.due("miss", x.miss(0), 0);
    }

    @Edge(of = 14, says = {"UNKNOWN: MODE, NODES; OUTSIDE",
        "of several the first in the order in which a call's line tells them"})
    private static void multipleUnknownAheadOfOutside() {
        Edges.refused(x -> x.multiple(3, 0, 1, 0), UNKNOWN);
        Edges.refused(x -> x.multiple(0, Made.NODES, Made.NODES, 1), UNKNOWN);
        Edges.refused(x -> x.multiple(0, 0, Made.NODES, 101), UNKNOWN);
    }

    @Edge(of = 14, says = {"UNKNOWN: MODE, NODES; OUTSIDE: k, both are one; FULL.",
        "of several the first in the order in which a call's line tells them"})
    private static void multipleUnknownAheadOfFull() {
        Edges.refused(Made::full, x -> x.multiple(3, 0, 1, 1), UNKNOWN);
        Edges.refused(Made::full, x -> x.multiple(0, 16, 1, 1), UNKNOWN);
    }

    @Edge(of = 14, says = {"OUTSIDE: k, both are one; FULL.",
        "of several the first in the order in which a call's line tells them"})
    private static void multipleOutsideAheadOfFull() {
        Edges.refused(Made::full, x -> x.multiple(0, 0, 1, 0), OUTSIDE);
        Edges.refused(Made::full, x -> x.multiple(0, 1, 1, 1), OUTSIDE);
    }

    @Edge(of = 14, says = {"FULL", "WISHES, 12 ever"})
    private static void multipleIfFull() {
        Edges.refused(Made::full, x -> x.multiple(0, 0, 1, 1), FULL);
    }

    // ---- 15 miss

    @Edge(of = 15, says = "MISS of a WISH, as SETTINGS are. UNKNOWN.")
    private static void missOfNoWish() {
        Edges.refused(Made::empty, x -> x.miss(0), UNKNOWN);
        Edges.refused(x -> x.miss(Made.WISHES), UNKNOWN);
        Edges.refused(x -> x.miss(-1), UNKNOWN);
        Edges.refused(x -> x.miss(GREATEST), UNKNOWN);
        Edges.refused(x -> x.miss(LEAST), UNKNOWN);
        Edges.refused(Made::full, x -> x.miss(12), UNKNOWN);
    }

    @Edge(of = 15, says = "MISS of a WISH, as SETTINGS are.")
    private static void missAsSettingsAreNotAsPlanned() {
        RateTree x = Made.rich();
        Due.due("1200 for 400", x.miss(0), 2000);
        Due.due("go()", x.go(), 3);
        Due.due("1200 for 400, by 4 / 2", x.miss(0), 2000);
        x.set(3, 6);
        Due.due("400 for 400", x.miss(0), 0);
    }

    private static int missOf(int r, int a, int b) {
        RateTree x = Made.sources(r);
        x.wish(0, 0, a, b, 0);
        return x.miss(0);
    }

    @Edge(of = 0, says = {"the difference of the RATE and a / b, by a / b, times 1000, cut", "Quotients are cut."})
    private static void missIsCut() {
        Due.due("10 for 11: 90.9", missOf(10, 11, 1), 90);
        Due.due("1999 for 1998: 0.5", missOf(1999, 1998, 1), 0);
        Due.due("1001 for 1000: 1", missOf(1001, 1000, 1), 1);
        Due.due("1000 for 1001: 0.99", missOf(1000, 1001, 1), 0);
    }

    @Edge(of = 0, says = "the difference of the RATE and a / b, by a / b, times 1000, cut")
    private static void missBelowAndAbove() {
        Due.due("9 for 10", missOf(9, 10, 1), 100);
        Due.due("11 for 10", missOf(11, 10, 1), 100);
        Due.due("10 for 10", missOf(10, 10, 1), 0);
        Due.due("10 for 20 / 2", missOf(10, 20, 2), 0);
    }

    @Edge(of = 0, says = "1000000 at most (RATE BEYOND: 1000000)")
    private static void missOfAMillionAtMost() {
        RateTree x = Made.sources(500750);
        int n = Made.times(x, 0, 4);
        x.wish(0, n, 2001, 1, 0);
        Due.due("just below: 999999.5", x.miss(0), 999999);
        Due.due("just so", missOf(1001, 1, 1), 1000000);
        Due.due("above", missOf(1002, 1, 1), 1000000);
    }

    @Edge(of = 0, says = "1000000 at most (RATE BEYOND: 1000000)")
    private static void missOfTheGreatestRate() {
        RateTree x = Made.sources(1000000);
        int n = Made.times(x, 0, 50, 20);
        x.wish(0, n, 1, 1000, 0);
        x.wish(0, n, 1000000, 1, 0);
        Due.due("of a thousandth", x.miss(0), 1000000);
        Due.due("of a million", x.miss(1), 999000);
    }

    @Edge(of = 0, says = "the difference of the RATE and a / b, by a / b, times 1000, cut")
    private static void missOfTheLeastRate() {
        RateTree x = Made.sources(1);
        int n = Made.by(x, 0, 64, 50, 50, 50, 25, 5);
        x.wish(0, n, 1000000, 1, 999);
        x.wish(0, n, 1, 1000, 999);
        Due.due("of a million", x.miss(0), 999);
        Due.due("of a thousandth", x.miss(1), 999);
    }

    @Edge(of = 0, says = "the difference of the RATE and a / b, by a / b, times 1000, cut")
    private static void missOfZero() {
        RateTree x = Made.sources(1);
        x.gate(0);
        x.wish(0, 1, 7, 3, 999);
        Due.due("the whole", x.miss(0), 1000);
        Due.due("never met", x.told(2), 0);
    }

    /** Node 2 gives 63 times 16000000, which is BEYOND; 62 times is not. */
    private static RateTree beyond() {
        RateTree x = Made.sources(1000000);
        x.stage(1, 0, 16, 16);
        x.stage(1, 1, 62, 63);
        x.set(2, 63);
        return x;
    }

    @Edge(of = 0, says = "1000000 at most (RATE BEYOND: 1000000)")
    private static void missOfBeyond() {
        RateTree x = beyond();
        x.wish(0, 2, 1000000, 1, 999);
        Due.due("BEYOND", x.miss(0), 1000000);
        x.set(2, 62);
        Due.due("not BEYOND", x.miss(0), 991000);
    }

    @Edge(of = 0, says = "of the second: 0, if it is so (BEYOND: not so), else 1000000")
    private static void missOfAMultiple() {
        RateTree x = Made.sources(15, 5, 4);
        x.multiple(0, 0, 1, 3);
        x.multiple(0, 0, 1, 2);
        x.multiple(0, 1, 0, 3);
        x.multiple(0, 0, 2, 3);
        Due.due("3 times", x.miss(0), 0);
        Due.due("not 2 times", x.miss(1), 1000000);
        Due.due("not the other way", x.miss(2), 1000000);
        Due.due("3.75 is not 3", x.miss(3), 1000000);
    }

    @Edge(of = 0, says = "of the second: 0, if it is so (BEYOND: not so), else 1000000")
    private static void missOfAMultipleOfFractions() {
        RateTree x = Made.sources(1);
        int sixth = Made.by(x, 0, 6);
        int half = Made.by(x, 0, 2);
        int third = Made.by(x, 0, 3);
        x.multiple(0, half, sixth, 3);
        x.multiple(0, third, sixth, 2);
        x.multiple(0, half, third, 1);
        Due.due("1/2 is 3 times 1/6", x.miss(0), 0);
        Due.due("1/3 is 2 times 1/6", x.miss(1), 0);
        Due.due("1/2 is not 1/3", x.miss(2), 1000000);
    }

    @Edge(of = 0, says = "of the second: 0, if it is so (BEYOND: not so), else 1000000")
    private static void missOfAMultipleIfTheFirstIsBeyond() {
        RateTree x = beyond();
        x.multiple(0, 2, 1, 63);
        x.multiple(0, 2, 1, 62);
        Due.due("though 63 times it", x.miss(0), 1000000);
        x.set(2, 62);
        Due.due("62 times it", x.miss(1), 0);
    }

    @Edge(of = 0, says = "of the second: 0, if it is so (BEYOND: not so), else 1000000")
    private static void missOfAMultipleIfTheOtherIsBeyond() {
        RateTree x = Made.sources(1);
        int n = Made.by(x, 0, 57, 47, 47, 38, 19, 11);
        x.multiple(0, n - 1, n, 11);
        Due.due("though 11 times it", x.miss(0), 1000000);
        x.gate(0);
        x.multiple(0, n + 1, n, 1);
        Due.due("0 of BEYOND", x.miss(1), 1000000);
    }

    @Edge(of = 0, says = "of the second: 0, if it is so (BEYOND: not so), else 1000000")
    private static void missOfAMultipleIfBothAreBeyond() {
        RateTree x = beyond();
        int n = x.choice(2, 2);
        x.multiple(0, n, 2, 1);
        Due.due("though the same", x.miss(0), 1000000);
        x.set(2, 62);
        Due.due("not BEYOND", x.miss(0), 0);
    }

    @Edge(of = 0, says = "of the second: 0, if it is so (BEYOND: not so), else 1000000")
    private static void missOfAMultipleAboveABillion() {
        RateTree x = Made.sources(1000000);
        int n = Made.times(x, 0, 50, 20);
        x.multiple(0, 0, n, 100);
        x.multiple(0, n, 0, 100);
        Due.due("a million is not 100 times a billion", x.miss(0), 1000000);
        Due.due("a billion is not 100 times a million", x.miss(1), 1000000);
    }

    @Edge(of = 0, says = "of the second: 0, if it is so (BEYOND: not so), else 1000000")
    private static void missOfAMultipleOfZero() {
        RateTree x = Made.sources(1);
        x.gate(0);
        x.gate(0);
        x.multiple(0, 1, 2, 100);
        x.multiple(0, 0, 2, 100);
        x.multiple(0, 1, 0, 100);
        Due.due("0 is 100 times 0", x.miss(0), 0);
        Due.due("1 is not", x.miss(1), 1000000);
        Due.due("0 is not 100 times 1", x.miss(2), 1000000);
    }

    // ---- terms: met

    private static void metBy(int r, int a, int e, int want) {
        RateTree x = Made.sources(r);
        x.wish(0, 0, a, 1, e);
        Due.due(r + " for " + a + " with " + e + ": told(2)", x.told(2), want);
        Due.due(r + " for " + a + " with " + e + ": hopeless", x.hopeless(0), 1 - want);
        Due.due(r + " for " + a + " with " + e + ": search", x.search(0), want == 1 ? x.miss(0) : NONE);
    }

    @Edge(of = 0, says = "A WISH is MET, if its MISS is e at most (of the second kind 0).")
    private static void metByAMissOfJustE() {
        metBy(11, 10, 100, 1);
        metBy(11, 10, 99, 0);
    }

    @Edge(of = 0, says = "A WISH is MET, if its MISS is e at most (of the second kind 0).")
    private static void metWithNoMissAllowed() {
        metBy(10, 10, 0, 1);
        metBy(10001, 10000, 0, 1);
        metBy(1001, 1000, 0, 0);
    }

    @Edge(of = 0, says = "A WISH is MET, if its MISS is e at most (of the second kind 0).")
    private static void metWithTheGreatestMissAllowed() {
        metBy(1, 1000000, 999, 1);
        metBy(1999, 1000, 999, 1);
        metBy(2000, 1000, 999, 0);
    }

    @Edge(of = 0, says = "A WISH is MET, if its MISS is e at most (of the second kind 0).")
    private static void metMultiple() {
        RateTree x = Made.sources(10, 5);
        x.multiple(0, 0, 1, 2);
        x.multiple(1, 0, 1, 3);
        Due.due("told(2)", x.told(2), 1);
        Due.due("met", x.search(0), 0);
        Due.due("not met", x.search(1), NONE);
    }

    // ---- 16 wished

    @Edge(of = 16, says = "UNKNOWN; OUTSIDE.")
    private static void wishedOfNoWish() {
        Edges.refused(x -> x.wished(Made.WISHES, 0), UNKNOWN);
        Edges.refused(x -> x.wished(-1, 0), UNKNOWN);
        Edges.refused(x -> x.wished(GREATEST, 0), UNKNOWN);
        Edges.refused(x -> x.wished(LEAST, 0), UNKNOWN);
        Edges.refused(Made::full, x -> x.wished(12, 0), UNKNOWN);
    }

    @Edge(of = 16, says = "OUTSIDE")
    private static void wishedWhatTooSmall() {
        Edges.refused(x -> x.wished(0, -1), OUTSIDE);
        Edges.refused(x -> x.wished(0, LEAST), OUTSIDE);
    }

    @Edge(of = 16, says = "OUTSIDE")
    private static void wishedWhatTooLarge() {
        Edges.refused(x -> x.wished(0, 6), OUTSIDE);
        Edges.refused(x -> x.wished(0, GREATEST), OUTSIDE);
    }

    @Edge(of = 16, says = {"UNKNOWN; OUTSIDE.", "of several the first in the order in which a call's line tells them"})
    private static void wishedUnknownAheadOfOutside() {
        Edges.refused(x -> x.wished(Made.WISHES, 6), UNKNOWN);
    }

    @Edge(of = 16, says = "3 a, or the other NODE, 4 b, or k, 5 e (0 of the second kind)")
    private static void wishedOfBothKinds() {
        RateTree x = Made.rich();
        wished(x, 0, 0, 0, 3, 400, 1, 500);
        wished(x, 1, 1, 1, 2, 0, 3, 0);
    }

    // ---- 17 search

    @Edge(of = 17, says = {"UNKNOWN; SPENT (the PLAN stays).", "MODES 0 .. 2."})
    private static void searchForNoMode() {
        Edges.refused(x -> x.search(-1), UNKNOWN);
        Edges.refused(x -> x.search(3), UNKNOWN);
        Edges.refused(x -> x.search(LEAST), UNKNOWN);
        Edges.refused(x -> x.search(GREATEST), UNKNOWN);
    }

    @Edge(of = 17, says = "SPENT (the PLAN stays).")
    private static void searchIfSpent() {
        for (int mode = 0; mode < 3; mode++) {
            int m = mode;
            Edges.refused(Made::spent, x -> x.search(m), SPENT);
        }
    }

    @Edge(of = 17, says = {"UNKNOWN; SPENT (the PLAN stays).",
        "of several the first in the order in which a call's line tells them"})
    private static void searchUnknownAheadOfSpent() {
        Edges.refused(Made::spent, x -> x.search(3), UNKNOWN);
    }

    /** Multipliers with so many settings, each of a source of 1. */
    private static RateTree rows(int... settings) {
        RateTree x = Made.sources(1);
        for (int many : settings) {
            x.stage(1, 0, 65 - many, 64);
        }
        return x;
    }

    @Edge(of = 0, says = "more than 20000 of them: SPENT")
    private static void searchOfTwentyThousandRows() {
        RateTree x = rows(50, 50, 8);
        Due.due("told(3)", x.told(3), 20000);
        Due.due("search(0)", x.search(0), 0);
        Due.due("tried()", x.tried(), 20000);
        Due.due("hopeless(0)", x.hopeless(0), 0);
        Due.due("tried()", x.tried(), 20000);
    }

    /** No tree has more rows than 20000 and fewer than these. */
    @Edge(of = 0, says = "more than 20000 of them: SPENT")
    private static void searchOfMoreThanTwentyThousandRows() {
        Edges.refused(() -> rows(57, 39, 9), x -> x.search(0), SPENT);
        Due.due("told(3)", rows(57, 39, 9).told(3), 20007);
    }

    @Edge(of = 0, says = "more than 20000 of them: SPENT")
    private static void searchOfRowsBeyondAllInts() {
        Edges.refused(() -> rows(64, 64, 64, 64, 64, 64), x -> x.search(0), SPENT);
        Edges.refused(() -> rows(64, 64, 64, 64, 64, 32, 64), x -> x.search(0), SPENT);
        Edges.refused(() -> rows(64, 64, 64, 64, 64, 64, 64, 64, 64, 64, 64), x -> x.search(0), SPENT);
    }

    @Edge(of = 0, says = "A NODE may be LOCKED: its SETTING stays in a SEARCH.")
    private static void searchWithLockedNodesIsNotSpent() {
        RateTree x = rows(57, 39, 9);
        x.set(1, 64);
        x.lock(1, true);
        Due.due("told(3)", x.told(3), 351);
        Due.due("search(0)", x.search(0), 0);
        Due.due("tried()", x.tried(), 351);
        Due.due("the locked one stays", x.planned(1), 64);
        Due.due("another", x.planned(2), 26);
    }

    @Edge(of = 0, says = "all rows of SETTINGS of NODES that are not LOCKED (the others as they are)")
    private static void searchWithAllLocked() {
        RateTree x = Made.kinds();
        x.set(1, 7);
        x.set(4, 1);
        for (int n = 0; n < 5; n++) {
            x.lock(n, true);
        }
        Due.due("search(0)", x.search(0), 0);
        Due.due("tried()", x.tried(), 1);
        int[] want = {0, 7, 3, 0, 1};
        for (int n = 0; n < 5; n++) {
            Due.due("planned(" + n + ")", x.planned(n), want[n]);
        }
    }

    @Edge(of = 17, says = "A SEARCH: BEST becomes the PLAN: its greatest MISS")
    private static void searchWithoutNodes() {
        RateTree x = new RateTree();
        Due.due("search(2)", x.search(2), 0);
        Due.due("tried()", x.tried(), 1);
        Due.due("told(4)", x.told(4), 0);
    }

    @Edge(of = 17, says = "A SEARCH: BEST becomes the PLAN: its greatest MISS")
    private static void searchWithoutWishes() {
        RateTree x = Made.sources(10);
        x.stage(1, 0, 2, 5);
        x.wish(1, 1, 1, 1, 0);
        Due.due("search(0)", x.search(0), 0);
        Due.due("planned(1)", x.planned(1), 2);
    }

    @Edge(of = 17, says = "A SEARCH: BEST becomes the PLAN: its greatest MISS")
    private static void searchLeavesSettings() {
        RateTree x = Made.sources(10);
        x.stage(1, 0, 2, 5);
        x.set(1, 5);
        x.search(0);
        Due.due("planned(1)", x.planned(1), 2);
        Due.due("setting", x.about(1, 3), 5);
    }

    @Edge(of = 17, says = "NONE: there is none (the PLAN goes).")
    private static void searchThatFindsNone() {
        RateTree x = Made.rich();
        Due.due("planned(2)", x.planned(2), 4);
        Due.due("search(2)", x.search(2), NONE);
        Due.due("planned(2)", x.planned(2), STATE);
        Due.due("told(4)", x.told(4), NONE);
        Due.due("change()", x.change(), STATE);
        Due.due("tried()", x.tried(), 96);
    }

    @Edge(of = 17, says = "A SEARCH: BEST becomes the PLAN: its greatest MISS")
    private static void searchTakesThePlaceOfAPlan() {
        RateTree x = Made.rich();
        Due.due("planned(2)", x.planned(2), 4);
        Due.due("search(1)", x.search(1), 0);
        Due.due("planned(2)", x.planned(2), 3);
    }

    @Edge(of = 17, says = "A SEARCH: BEST becomes the PLAN: its greatest MISS")
    private static void searchAnewForNodesAndWishesThatCameBehindOne() {
        RateTree x = Made.sources(10);
        x.wish(0, 0, 10, 1, 0);
        Due.due("search(0)", x.search(0), 0);
        x.stage(1, 0, 1, 4);
        x.wish(1, 1, 30, 1, 0);
        Due.due("search(1)", x.search(1), 0);
        Due.due("planned(1)", x.planned(1), 3);
        Due.due("search(0) again", x.search(0), 0);
        Due.due("planned(1)", x.planned(1), 1);
        x.wish(0, 1, 40, 1, 0);
        Due.due("search(0) with a wish more", x.search(0), 0);
        Due.due("planned(1)", x.planned(1), 4);
    }

    /** A choice, node 2, of two sources, and a wish of mode 0 for it. */
    private static RateTree pick(int first, int second, int a, int e) {
        RateTree x = Made.sources(first, second);
        x.choice(0, 1);
        x.wish(0, 2, a, 1, e);
        return x;
    }

    private static void best(RateTree x, int miss, int n, int setting) {
        Due.due("search(0)", x.search(0), miss);
        Due.due("planned(" + n + ")", x.planned(n), setting);
    }

    /** The first: 0 and 300, the second: 200 and 160, which is more in sum and in power. */
    @Edge(of = 0, says = "with the least greatest MISS")
    private static void bestByGreatestMiss() {
        RateTree x = pick(1000, 1200, 1000, 999);
        x.wish(0, 2, 1429, 1, 999);
        best(x, 200, 2, 1);
    }

    /** The greatest is 500 for both; the second misses less in sum, with more power. */
    @Edge(of = 0, says = "of several the one with the least sum of MISSES")
    private static void bestBySumOfMisses() {
        RateTree x = pick(1000, 1200, 1200, 999);
        x.wish(0, 0, 2000, 1, 999);
        best(x, 500, 2, 1);
    }

    /** 900 and 1100 both miss 1000 by 100. */
    @Edge(of = 0, says = "of several that with the least POWER")
    private static void bestByPower() {
        best(pick(1100, 900, 1000, 999), 100, 2, 1);
        best(pick(900, 1100, 1000, 999), 100, 2, 0);
    }

    /** 5/3 and 4/3 are both cut to 1, so that the first is taken, though it gives more. */
    @Edge(of = 0, says = "(the sum of all RATES, each cut)")
    private static void bestByPowerOfRatesThatAreCut() {
        RateTree x = Made.sources(5, 4);
        Made.by(x, 0, 3);
        Made.by(x, 1, 3);
        int n = x.choice(2, 3);
        best(x, 0, n, 0);
    }

    @Edge(of = 0, says = "of several the first.")
    private static void bestByOrder() {
        best(pick(1000, 1000, 1000, 0), 0, 2, 0);
    }

    /** One of the two choices must give 20, and the other then gives 10: the first NODE's setting is 0 first. */
    @Edge(of = 0, says = "the first NODE's going slowest, from the least on")
    private static void bestByOrderOfNodes() {
        RateTree x = Made.sources(10, 20);
        x.choice(0, 1);
        x.choice(0, 1);
        x.choice(2, 3);
        x.wish(0, 4, 20, 1, 0);
        best(x, 0, 2, 0);
        Due.due("planned(3)", x.planned(3), 1);
        Due.due("planned(4)", x.planned(4), 1);
    }

    @Edge(of = 0, says = "BEST is the one that is SOUND")
    private static void bestIsSound() {
        RateTree x = pick(1000, 1200, 1000, 999);
        x.limits(2, 1001, 2000);
        best(x, 200, 2, 1);
        x.limits(2, 0, 1000);
        best(x, 0, 2, 0);
        x.limits(0, 0, 999);
        Due.due("no row is sound", x.search(0), NONE);
    }

    @Edge(of = 0, says = "BEST is the one that is SOUND")
    private static void bestIsNotBeyond() {
        RateTree x = beyond();
        x.lock(2, true);
        Due.due("BEYOND", x.search(0), NONE);
        x.lock(2, false);
        best(x, 0, 2, 62);
    }

    @Edge(of = 0, says = "with all WISHES of the MODE MET")
    private static void bestMeetsAll() {
        RateTree x = pick(1000, 1200, 1000, 999);
        x.wish(0, 2, 1200, 1, 100);
        best(x, 200, 2, 1);
        x.wish(0, 2, 1000, 1, 199);
        Due.due("not all", x.search(0), NONE);
    }

    @Edge(of = 0, says = "with all WISHES of the MODE MET")
    private static void bestIgnoresOtherModes() {
        RateTree x = pick(1000, 1200, 1000, 0);
        x.wish(1, 2, 1200, 1, 0);
        x.wish(2, 2, 1100, 1, 0);
        best(x, 0, 2, 0);
        Due.due("search(1)", x.search(1), 0);
        Due.due("planned(2)", x.planned(2), 1);
        Due.due("search(2)", x.search(2), NONE);
    }

    // ---- 18 hopeless

    @Edge(of = 18, says = {"UNKNOWN; SPENT.", "MODES 0 .. 2."})
    private static void hopelessForNoMode() {
        Edges.refused(x -> x.hopeless(-1), UNKNOWN);
        Edges.refused(x -> x.hopeless(3), UNKNOWN);
        Edges.refused(x -> x.hopeless(LEAST), UNKNOWN);
        Edges.refused(x -> x.hopeless(GREATEST), UNKNOWN);
    }

    @Edge(of = 18, says = "SPENT")
    private static void hopelessIfSpent() {
        Edges.refused(Made::spent, x -> x.hopeless(0), SPENT);
        Edges.refused(() -> rows(57, 39, 9), x -> x.hopeless(0), SPENT);
    }

    @Edge(of = 18, says = {"UNKNOWN; SPENT.", "of several the first in the order in which a call's line tells them"})
    private static void hopelessUnknownAheadOfSpent() {
        Edges.refused(Made::spent, x -> x.hopeless(-1), UNKNOWN);
    }

    @Edge(of = 18, says = "WISHES of a MODE that CAN NOT BE MET, a bit for each.")
    private static void hopelessWithoutWishes() {
        Due.due("no nodes", new RateTree().hopeless(0), 0);
        Due.due("no wishes", Made.kinds().hopeless(2), 0);
    }

    @Edge(of = 18, says = "WISHES of a MODE that CAN NOT BE MET, a bit for each.")
    private static void hopelessForTheTwelfthWish() {
        RateTree x = Made.sources(10);
        for (int w = 0; w < 11; w++) {
            x.wish(0, 0, 10, 1, 0);
        }
        Due.due("none", x.hopeless(0), 0);
        x.wish(0, 0, 11, 1, 0);
        Due.due("the twelfth", x.hopeless(0), 2048);
    }

    @Edge(of = 18, says = "WISHES of a MODE that CAN NOT BE MET, a bit for each.")
    private static void hopelessForAllWishes() {
        RateTree x = Made.sources(10, 20);
        for (int w = 0; w < 12; w++) {
            int number = w % 2 == 0 ? x.wish(1, 0, 11, 1, 0) : x.multiple(1, 0, 1, 2);
            Due.due("a wish", number, w);
        }
        Due.due("all", x.hopeless(1), 4095);
    }

    @Edge(of = 18, says = "WISHES of a MODE that CAN NOT BE MET, a bit for each.")
    private static void hopelessForOneModeAlone() {
        RateTree x = Made.sources(10);
        x.wish(0, 0, 11, 1, 0);
        x.wish(1, 0, 11, 1, 0);
        x.wish(2, 0, 10, 1, 0);
        Due.due("hopeless(0)", x.hopeless(0), 1);
        Due.due("hopeless(1)", x.hopeless(1), 2);
        Due.due("hopeless(2)", x.hopeless(2), 0);
    }

    @Edge(of = 0, says = "(whatever others are)")
    private static void hopelessThoughNotTogether() {
        RateTree x = pick(1000, 1200, 1000, 0);
        x.wish(0, 2, 1200, 1, 0);
        Due.due("each by itself", x.hopeless(0), 0);
        Due.due("not together", x.search(0), NONE);
    }

    @Edge(of = 0, says = "a WISH of the MODE that is MET by no row that is SOUND")
    private static void hopelessIfNotSound() {
        RateTree x = pick(1000, 1200, 1200, 0);
        Due.due("sound", x.hopeless(0), 0);
        x.limits(2, 0, 1199);
        Due.due("the row that meets it is not", x.hopeless(0), 1);
        x.limits(2, 0, 1200);
        x.limits(1, 0, 1199);
        Due.due("another node is not well in any row", x.hopeless(0), 1);
    }

    @Edge(of = 0, says = "its SETTING stays in a SEARCH")
    private static void hopelessWithALockedNode() {
        RateTree x = pick(1000, 1200, 1200, 0);
        x.lock(2, true);
        Due.due("as it is", x.hopeless(0), 1);
        x.lock(2, false);
        x.set(2, 1);
        x.lock(2, true);
        Due.due("as it is", x.hopeless(0), 0);
    }

    @Edge(of = 0, says = "a WISH of the MODE that is MET by no row that is SOUND")
    private static void hopelessIfNoRowIsSound() {
        RateTree x = Made.sources(10);
        x.limits(0, 20, 30);
        x.wish(0, 0, 10, 1, 0);
        x.wish(1, 0, 10, 1, 0);
        Due.due("hopeless(0)", x.hopeless(0), 1);
        Due.due("hopeless(1)", x.hopeless(1), 2);
        Due.due("hopeless(2)", x.hopeless(2), 0);
    }

    @Edge(of = 18, says = "WISHES of a MODE that CAN NOT BE MET, a bit for each.")
    private static void hopelessBehindASearch() {
        RateTree x = Made.sources(10);
        x.stage(1, 0, 1, 4);
        x.wish(0, 1, 20, 1, 0);
        x.wish(0, 1, 30, 1, 0);
        x.wish(0, 1, 50, 1, 0);
        Due.due("hopeless(0)", x.hopeless(0), 4);
        Due.due("search(0)", x.search(0), NONE);
        Due.due("hopeless(0) behind it", x.hopeless(0), 4);
        Due.due("search(1)", x.search(1), 0);
        Due.due("hopeless(1) behind it", x.hopeless(1), 0);
    }

    @Edge(of = 18, says = "WISHES of a MODE that CAN NOT BE MET, a bit for each.")
    private static void hopelessLeavesPlanAndChange() {
        RateTree x = Made.rich();
        Due.due("hopeless(2)", x.hopeless(2), 4);
        Due.same("all stays", Look.at(x), Look.at(Made.rich()));
    }

    // ---- 19 planned

    @Edge(of = 19, says = "UNKNOWN: NODE; STATE: there is no PLAN")
    private static void plannedOfNoNode() {
        Edges.refused(x -> x.planned(Made.NODES), UNKNOWN);
        Edges.refused(x -> x.planned(-1), UNKNOWN);
        Edges.refused(x -> x.planned(GREATEST), UNKNOWN);
        Edges.refused(x -> x.planned(LEAST), UNKNOWN);
        Edges.refused(Made::full, x -> x.planned(16), UNKNOWN);
    }

    @Edge(of = 19, says = "STATE: there is no PLAN")
    private static void plannedWithoutAPlan() {
        Edges.refused(Made::kinds, x -> x.planned(0), STATE);
        Edges.refused(Made::kinds, x -> x.planned(4), STATE);
    }

    @Edge(of = 19, says = {"UNKNOWN: NODE; STATE: there is no PLAN",
        "of several the first in the order in which a call's line tells them"})
    private static void plannedUnknownAheadOfState() {
        Edges.refused(Made::kinds, x -> x.planned(5), UNKNOWN);
        Edges.refused(Made::kinds, x -> x.planned(-1), UNKNOWN);
    }

    private static RateTree richAndOneMore() {
        RateTree x = Made.rich();
        x.gate(0);
        return x;
    }

    @Edge(of = 19, says = "UNKNOWN: the NODE came behind it.")
    private static void plannedOfANodeThatCameBehindIt() {
        Edges.refused(WishEdgesTest::richAndOneMore, x -> x.planned(Made.NODES), UNKNOWN);
        RateTree x = richAndOneMore();
        Due.due("the last that it has", x.planned(Made.NODES - 1), 1);
        Due.due("search(1)", x.search(1), 0);
        Due.due("a new plan has it", x.planned(Made.NODES), 0);
    }

    @Edge(of = 19, says = "UNKNOWN: the NODE came behind it.")
    private static void plannedBehindAPlanOfNoNodes() {
        RateTree x = new RateTree();
        x.search(0);
        Due.due("no node", x.planned(0), UNKNOWN);
        x.source(1);
        Due.due("came behind it", x.planned(0), UNKNOWN);
    }

    // ---- 21 tried

    @Edge(of = 21, says = {"(0 ahead of any)", "of several the first in the order in which a call's line tells them"})
    private static void triedAheadOfAny() {
        Due.due("new", new RateTree().tried(), 0);
        RateTree x = Made.kinds();
        x.search(3);
        x.hopeless(-1);
        Due.due("refused ones alone", x.tried(), 0);
        RateTree y = rows(64, 64, 64);
        y.search(0);
        y.hopeless(0);
        Due.due("SPENT ones alone", y.tried(), 0);
    }

    @Edge(of = 21, says = "the latest SEARCH (of search(), hopeless()) that was not SPENT")
    private static void triedOfTheLatestNotSpent() {
        RateTree x = rows(5, 64, 64);
        x.lock(3, true);
        x.search(0);
        Due.due("of search()", x.tried(), 320);
        x.lock(3, false);
        x.search(0);
        x.hopeless(0);
        Due.due("behind SPENT ones", x.tried(), 320);
        x.lock(2, true);
        x.lock(3, true);
        x.hopeless(0);
        Due.due("of hopeless()", x.tried(), 5);
    }

    @Edge(of = 21, says = "How many rows")
    private static void triedCountsRowsThatAreNotSound() {
        RateTree x = rows(4, 5);
        x.limits(0, 2, 3);
        Due.due("none is sound", x.search(0), NONE);
        Due.due("of search()", x.tried(), 20);
        x.lock(2, true);
        x.hopeless(0);
        Due.due("of hopeless()", x.tried(), 4);
    }

    @Edge(of = 21, says = "How many rows")
    private static void triedIsOneRowIfAllAreSources() {
        RateTree x = Made.sources(1, 2, 3);
        x.search(0);
        Due.due("tried()", x.tried(), 1);
    }
}
