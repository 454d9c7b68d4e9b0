/** Promises 25 to 29 and 34: each boundary case that the document names for sheets, by a test of its own. */
public final class SheetEdgesTest {
    private static final int UNKNOWN = RateTree.UNKNOWN, OUTSIDE = RateTree.OUTSIDE;
    private static final long LOST = RateTree.LOST;
    private static final int LEAST = Integer.MIN_VALUE, GREATEST = Integer.MAX_VALUE;
    private static final int NULL = -11, CAST = -12, INDEX = -13, SIZE = -14;

    public static void main(String[] args) throws Exception {
        Edges.run(SheetEdgesTest.class);
    }

    // ---- 25 sheet

    @Edge(of = 25, says = {"UNKNOWN; OUTSIDE: lane, n above 24; SIZE.", "SHEETS 0 .. 3"})
    private static void sheetThatIsNone() {
        Edges.faulted(x -> x.sheet(-1, 0, 1), UNKNOWN, 0);
        Edges.faulted(x -> x.sheet(4, 0, 1), UNKNOWN, 0);
        Edges.faulted(x -> x.sheet(LEAST, 0, 1), UNKNOWN, 0);
        Edges.faulted(x -> x.sheet(GREATEST, 0, 1), UNKNOWN, 0);
    }

    @Edge(of = 25, says = {"OUTSIDE: lane, n above 24", "LANE: 0 bytes, 1 shorts, 2 ints"})
    private static void sheetOfALaneTooSmall() {
        Edges.faulted(x -> x.sheet(0, -1, 1), OUTSIDE, 0);
        Edges.faulted(x -> x.sheet(0, LEAST, 1), OUTSIDE, 0);
    }

    @Edge(of = 25, says = {"OUTSIDE: lane, n above 24", "LANE: 0 bytes, 1 shorts, 2 ints"})
    private static void sheetOfALaneTooLarge() {
        Edges.faulted(x -> x.sheet(0, 3, 1), OUTSIDE, 0);
        Edges.faulted(x -> x.sheet(0, GREATEST, 1), OUTSIDE, 0);
    }

    @Edge(of = 25, says = {"OUTSIDE: lane, n above 24", "a row of 0 .. 24 numbers"})
    private static void sheetTooLong() {
        Edges.faulted(x -> x.sheet(0, 0, 25), OUTSIDE, 0);
        Edges.faulted(x -> x.sheet(3, 2, GREATEST), OUTSIDE, 0);
    }

    @Edge(of = 25, says = {"SIZE", "a row of 0 .. 24 numbers"})
    private static void sheetOfALengthBelowZero() {
        Edges.faulted(x -> x.sheet(0, 0, -1), SIZE, 4);
        Edges.faulted(x -> x.sheet(3, 2, -1), SIZE, 4);
        Edges.faulted(x -> x.sheet(1, 1, LEAST), SIZE, 4);
    }

    @Edge(of = 25, says = {"UNKNOWN; OUTSIDE: lane, n above 24; SIZE.",
        "of several the first in the order in which a call's line tells them"})
    private static void sheetUnknownAheadOfOutsideAndSize() {
        Edges.faulted(x -> x.sheet(4, 3, 25), UNKNOWN, 0);
        Edges.faulted(x -> x.sheet(-1, 0, -1), UNKNOWN, 0);
    }

    @Edge(of = 25, says = {"OUTSIDE: lane, n above 24; SIZE.",
        "of several the first in the order in which a call's line tells them"})
    private static void sheetOutsideAheadOfSize() {
        Edges.faulted(x -> x.sheet(0, 3, -1), OUTSIDE, 0);
        Edges.faulted(x -> x.sheet(0, -1, -1), OUTSIDE, 0);
    }

    @Edge(of = 0, says = "or a row of 0 .. 24 numbers (0 at first) of a LANE: 0 bytes, 1 shorts, 2 ints")
    private static void sheetOfNoNumbers() {
        for (int lane = 0; lane < 3; lane++) {
            RateTree x = new RateTree();
            Due.due("sheet", x.sheet(0, lane, 0), 1);
            Due.due("put", x.put(0, 0, 1), INDEX);
            Due.due("it is not nothing", x.lose(0), 1);
        }
    }

    @Edge(of = 0, says = "or a row of 0 .. 24 numbers (0 at first) of a LANE: 0 bytes, 1 shorts, 2 ints")
    private static void sheetOfTwentyFourNumbers() {
        for (int lane = 0; lane < 3; lane++) {
            RateTree x = new RateTree();
            Due.due("sheet", x.sheet(3, lane, 24), 1);
            for (int i = 0; i < 24; i++) {
                Due.due("0 at first", x.cell(3, i, lane), 0);
            }
            Due.due("the last", x.put(3, 23, 9), 1);
            Due.due("the last", x.cell(3, 23, lane), 9);
            Due.due("no more", x.put(3, 24, 9), INDEX);
        }
    }

    @Edge(of = 25, says = "A SHEET gets a new row: 1.")
    private static void sheetAnewIsOfZeros() {
        RateTree x = Made.rich();
        Due.due("ahead of it", x.cell(0, 1, 0), -7);
        Due.due("sheet", x.sheet(0, 0, 3), 1);
        Due.due("behind it", x.cell(0, 1, 0), 0);
    }

    @Edge(of = 25, says = {"A SHEET gets a new row: 1.", "a row of 0 .. 24 numbers (0 at first)"})
    private static void sheetAnewIsOfZerosInAllItsCells() {
        RateTree x = new RateTree();
        x.sheet(3, 2, 24);
        for (int i = 0; i < 24; i++) {
            x.put(3, i, i + 1);
        }
        x.sheet(3, 2, 24);
        for (int i = 0; i < 24; i++) {
            Due.due("cell " + i, x.cell(3, i, 2), 0);
        }
    }

    @Edge(of = 25, says = "A SHEET gets a new row: 1.")
    private static void sheetAnewIsOfItsOwnLength() {
        RateTree x = Made.rich();
        x.sheet(0, 0, 1);
        Due.due("shorter", x.put(0, 1, 1), INDEX);
        x.sheet(0, 0, 5);
        Due.due("longer", x.put(0, 4, 1), 1);
        Due.due("of zeros", x.cell(0, 1, 0), 0);
    }

    @Edge(of = 25, says = "A SHEET gets a new row: 1.")
    private static void sheetAnewIsOfItsOwnLane() {
        RateTree x = Made.rich();
        x.sheet(0, 2, 3);
        Due.due("the old lane", x.cell(0, 1, 0), LOST);
        Due.due("CAST", x.fault(), 2);
        Due.due("the new lane", x.cell(0, 1, 2), 0);
        x.put(0, 1, 70000);
        Due.due("is not cut", x.cell(0, 1, 2), 70000);
    }

    @Edge(of = 0, says = "SHEETS 0 .. 3 have nothing (at first)")
    private static void sheetsAreApart() {
        RateTree x = new RateTree();
        for (int k = 0; k < 4; k++) {
            Due.due("nothing", x.put(k, 0, 1), NULL);
            Due.due("sheet", x.sheet(k, 2, 1), 1);
            x.put(k, 0, k + 5);
        }
        for (int k = 0; k < 4; k++) {
            Due.due("its own", x.cell(k, 0, 2), k + 5);
        }
    }

    // ---- 26 lose

    @Edge(of = 26, says = {"A SHEET has nothing: 1; 0: it had nothing. UNKNOWN.", "SHEETS 0 .. 3"})
    private static void loseNoSheet() {
        Edges.refused(x -> x.lose(-1), UNKNOWN);
        Edges.refused(x -> x.lose(4), UNKNOWN);
        Edges.refused(x -> x.lose(LEAST), UNKNOWN);
        Edges.refused(x -> x.lose(GREATEST), UNKNOWN);
    }

    @Edge(of = 26, says = "0: it had nothing.")
    private static void loseNothing() {
        RateTree x = Made.rich();
        Due.due("lose(3)", x.lose(3), 0);
        Due.due("fault() stays", x.fault(), 2);
        Due.same("all stays", Look.at(x), Look.at(Made.rich()));
    }

    @Edge(of = 26, says = "A SHEET has nothing: 1")
    private static void loseTwice() {
        RateTree x = Made.rich();
        Due.due("lose(0)", x.lose(0), 1);
        Due.due("lose(0)", x.lose(0), 0);
        Due.due("it is nothing", x.cell(0, 1, 0), LOST);
        Due.due("NULL", x.fault(), 1);
        Due.due("another stays", x.cell(1, 3, 1), 4);
    }

    @Edge(of = 26, says = "A SHEET has nothing: 1")
    private static void loseARowOfNoNumbers() {
        RateTree x = Made.rich();
        Due.due("lose(2)", x.lose(2), 1);
        Due.due("lose(2)", x.lose(2), 0);
    }

    // ---- 27 put

    @Edge(of = 27, says = {"UNKNOWN; NULL; INDEX.", "SHEETS 0 .. 3"})
    private static void putIntoNoSheet() {
        Edges.faulted(x -> x.put(-1, 0, 1), UNKNOWN, 0);
        Edges.faulted(x -> x.put(4, 0, 1), UNKNOWN, 0);
        Edges.faulted(x -> x.put(LEAST, 0, 1), UNKNOWN, 0);
        Edges.faulted(x -> x.put(GREATEST, 0, 1), UNKNOWN, 0);
    }

    @Edge(of = 27, says = "NULL")
    private static void putIntoNothing() {
        Edges.faulted(x -> x.put(3, 0, 1), NULL, 1);
    }

    @Edge(of = 27, says = "INDEX")
    private static void putBelowTheFirstCell() {
        Edges.faulted(x -> x.put(0, -1, 1), INDEX, 3);
        Edges.faulted(x -> x.put(0, LEAST, 1), INDEX, 3);
    }

    @Edge(of = 27, says = "INDEX")
    private static void putBehindTheLastCell() {
        Edges.faulted(x -> x.put(0, 3, 1), INDEX, 3);
        Edges.faulted(x -> x.put(1, 8, 1), INDEX, 3);
        Edges.faulted(x -> x.put(0, GREATEST, 1), INDEX, 3);
    }

    @Edge(of = 27, says = "INDEX")
    private static void putIntoARowOfNoNumbers() {
        Edges.faulted(x -> x.put(2, 0, 1), INDEX, 3);
        Edges.faulted(x -> x.put(2, -1, 1), INDEX, 3);
    }

    @Edge(of = 27, says = {"UNKNOWN; NULL; INDEX.",
        "of several the first in the order in which a call's line tells them"})
    private static void putUnknownAheadOfIndex() {
        Edges.faulted(x -> x.put(4, -1, 1), UNKNOWN, 0);
    }

    @Edge(of = 27, says = {"NULL; INDEX", "Of a call the first that is come to, in the order told"})
    private static void putNullAheadOfIndex() {
        Edges.faulted(x -> x.put(3, -1, 1), NULL, 1);
        Edges.faulted(x -> x.put(3, 24, 1), NULL, 1);
    }

    @Edge(of = 27, says = "Cell i of a SHEET becomes v: 1.")
    private static void putIntoTheFirstAndTheLastCell() {
        RateTree x = Made.rich();
        Due.due("the first", x.put(0, 0, 5), 1);
        Due.due("the last", x.put(0, 2, 6), 1);
        Due.due("fault()", x.fault(), 0);
        Due.due("the first", x.cell(0, 0, 0), 5);
        Due.due("between", x.cell(0, 1, 0), -7);
        Due.due("the last", x.cell(0, 2, 0), 6);
    }

    private static void cut(int lane, int v, int want) {
        RateTree x = new RateTree();
        x.sheet(0, lane, 1);
        Due.due("put " + v, x.put(0, 0, v), 1);
        Due.due("cell of lane " + lane + " with " + v, x.cell(0, 0, lane), want);
    }

    @Edge(of = 0, says = "what comes to a cell of it is cut to its LANE")
    private static void putBytesThatFit() {
        cut(0, 127, 127);
        cut(0, -128, -128);
        cut(0, -1, -1);
    }

    @Edge(of = 0, says = "what comes to a cell of it is cut to its LANE")
    private static void putBytesThatAreCut() {
        cut(0, 128, -128);
        cut(0, -129, 127);
        cut(0, 255, -1);
        cut(0, 256, 0);
        cut(0, GREATEST, -1);
        cut(0, LEAST, 0);
    }

    @Edge(of = 0, says = "what comes to a cell of it is cut to its LANE")
    private static void putShortsThatFit() {
        cut(1, 32767, 32767);
        cut(1, -32768, -32768);
        cut(1, 128, 128);
    }

    @Edge(of = 0, says = "what comes to a cell of it is cut to its LANE")
    private static void putShortsThatAreCut() {
        cut(1, 32768, -32768);
        cut(1, -32769, 32767);
        cut(1, 65535, -1);
        cut(1, 65536, 0);
        cut(1, GREATEST, -1);
        cut(1, LEAST, 0);
    }

    @Edge(of = 0, says = "what comes to a cell of it is cut to its LANE")
    private static void putIntsThatAllFit() {
        cut(2, GREATEST, GREATEST);
        cut(2, LEAST, LEAST);
        cut(2, 65536, 65536);
    }

    // ---- 28 cell

    @Edge(of = 28, says = {"LOST: UNKNOWN, OUTSIDE: lane", "SHEETS 0 .. 3"})
    private static void cellOfNoSheet() {
        Edges.faulted(x -> x.cell(-1, 0, 0), LOST, 0);
        Edges.faulted(x -> x.cell(4, 0, 0), LOST, 0);
        Edges.faulted(x -> x.cell(LEAST, 0, 0), LOST, 0);
        Edges.faulted(x -> x.cell(GREATEST, 0, 0), LOST, 0);
    }

    @Edge(of = 28, says = {"LOST: UNKNOWN, OUTSIDE: lane", "LANE: 0 bytes, 1 shorts, 2 ints"})
    private static void cellOfALaneTooSmall() {
        Edges.faulted(x -> x.cell(0, 1, -1), LOST, 0);
        Edges.faulted(x -> x.cell(0, 1, LEAST), LOST, 0);
    }

    @Edge(of = 28, says = {"LOST: UNKNOWN, OUTSIDE: lane", "LANE: 0 bytes, 1 shorts, 2 ints"})
    private static void cellOfALaneTooLarge() {
        Edges.faulted(x -> x.cell(0, 1, 3), LOST, 0);
        Edges.faulted(x -> x.cell(0, 1, GREATEST), LOST, 0);
    }

    @Edge(of = 28, says = "FAULTS CAST (nothing is no CAST), NULL, INDEX")
    private static void cellOfAnotherLane() {
        Edges.faulted(x -> x.cell(0, 1, 1), LOST, 2);
        Edges.faulted(x -> x.cell(0, 1, 2), LOST, 2);
        Edges.faulted(x -> x.cell(1, 1, 0), LOST, 2);
        Edges.faulted(x -> x.cell(1, 1, 2), LOST, 2);
        Edges.faulted(x -> x.cell(2, 0, 1), LOST, 2);
    }

    @Edge(of = 28, says = "FAULTS CAST (nothing is no CAST), NULL, INDEX")
    private static void cellOfNothing() {
        for (int lane = 0; lane < 3; lane++) {
            int as = lane;
            Edges.faulted(x -> x.cell(3, 0, as), LOST, 1);
        }
    }

    @Edge(of = 28, says = "FAULTS CAST (nothing is no CAST), NULL, INDEX")
    private static void cellBelowTheFirst() {
        Edges.faulted(x -> x.cell(0, -1, 0), LOST, 3);
        Edges.faulted(x -> x.cell(0, LEAST, 0), LOST, 3);
    }

    @Edge(of = 28, says = "FAULTS CAST (nothing is no CAST), NULL, INDEX")
    private static void cellBehindTheLast() {
        Edges.faulted(x -> x.cell(0, 3, 0), LOST, 3);
        Edges.faulted(x -> x.cell(1, 8, 1), LOST, 3);
        Edges.faulted(x -> x.cell(2, 0, 2), LOST, 3);
        Edges.faulted(x -> x.cell(0, GREATEST, 0), LOST, 3);
    }

    @Edge(of = 28, says = "LOST: UNKNOWN, OUTSIDE: lane; FAULTS CAST (nothing is no CAST), NULL, INDEX")
    private static void cellRefusalsAheadOfFaults() {
        Edges.faulted(x -> x.cell(4, -1, 0), LOST, 0);
        Edges.faulted(x -> x.cell(3, 0, 3), LOST, 0);
        Edges.faulted(x -> x.cell(0, -1, 3), LOST, 0);
    }

    @Edge(of = 28, says = {"FAULTS CAST (nothing is no CAST), NULL, INDEX",
        "Of a call the first that is come to, in the order told"})
    private static void cellCastAheadOfIndex() {
        Edges.faulted(x -> x.cell(0, 3, 1), LOST, 2);
        Edges.faulted(x -> x.cell(0, -1, 2), LOST, 2);
    }

    @Edge(of = 28, says = {"FAULTS CAST (nothing is no CAST), NULL, INDEX",
        "Of a call the first that is come to, in the order told"})
    private static void cellNullAheadOfIndex() {
        Edges.faulted(x -> x.cell(3, -1, 0), LOST, 1);
        Edges.faulted(x -> x.cell(3, 24, 0), LOST, 1);
    }

    @Edge(of = 28, says = "Cell i of what a SHEET has, taken as a row of a LANE.")
    private static void cellFirstAndLast() {
        RateTree x = Made.rich();
        x.put(1, 0, -300);
        x.put(1, 7, 300);
        x.as(0, 4);
        Due.due("the first", x.cell(1, 0, 1), -300);
        Due.due("fault()", x.fault(), 0);
        Due.due("the last", x.cell(1, 7, 1), 300);
    }

    // ---- 29 copy

    @Edge(of = 29, says = {"UNKNOWN; FAULTS NULL (the first, the other), CAST (unlike LANES), INDEX", "SHEETS 0 .. 3"})
    private static void copyFromNoSheet() {
        Edges.faulted(x -> x.copy(-1, 0, 0, 0, 0), UNKNOWN, 0);
        Edges.faulted(x -> x.copy(4, 0, 0, 0, 0), UNKNOWN, 0);
        Edges.faulted(x -> x.copy(LEAST, 0, 0, 0, 0), UNKNOWN, 0);
        Edges.faulted(x -> x.copy(GREATEST, 0, 0, 0, 0), UNKNOWN, 0);
    }

    @Edge(of = 29, says = {"UNKNOWN; FAULTS NULL (the first, the other), CAST (unlike LANES), INDEX", "SHEETS 0 .. 3"})
    private static void copyToNoSheet() {
        Edges.faulted(x -> x.copy(0, 0, -1, 0, 0), UNKNOWN, 0);
        Edges.faulted(x -> x.copy(0, 0, 4, 0, 0), UNKNOWN, 0);
        Edges.faulted(x -> x.copy(0, 0, LEAST, 0, 0), UNKNOWN, 0);
        Edges.faulted(x -> x.copy(0, 0, GREATEST, 0, 0), UNKNOWN, 0);
    }

    @Edge(of = 29, says = "UNKNOWN; FAULTS NULL (the first, the other), CAST (unlike LANES), INDEX")
    private static void copyUnknownAheadOfFaults() {
        Edges.faulted(x -> x.copy(3, -1, 4, -1, -1), UNKNOWN, 0);
        Edges.faulted(x -> x.copy(4, -1, 3, -1, -1), UNKNOWN, 0);
    }

    @Edge(of = 29, says = "FAULTS NULL (the first, the other)")
    private static void copyFromNothing() {
        Edges.faulted(x -> x.copy(3, 0, 0, 0, 0), NULL, 1);
    }

    @Edge(of = 29, says = "FAULTS NULL (the first, the other)")
    private static void copyToNothing() {
        Edges.faulted(x -> x.copy(0, 0, 3, 0, 0), NULL, 1);
    }

    @Edge(of = 29, says = "FAULTS NULL (the first, the other)")
    private static void copyFromNothingToNothing() {
        Edges.faulted(x -> x.copy(3, 0, 3, 0, 0), NULL, 1);
    }

    @Edge(of = 29, says = "CAST (unlike LANES)")
    private static void copyToAnotherLane() {
        Edges.faulted(x -> x.copy(0, 0, 1, 0, 1), CAST, 2);
        Edges.faulted(x -> x.copy(1, 0, 0, 0, 1), CAST, 2);
        Edges.faulted(x -> x.copy(1, 0, 2, 0, 0), CAST, 2);
    }

    @Edge(of = 29, says = "CAST (unlike LANES)")
    private static void copyOfNoCellsToAnotherLane() {
        Edges.faulted(x -> x.copy(0, 0, 1, 0, 0), CAST, 2);
    }

    @Edge(of = 29, says = {"FAULTS NULL (the first, the other), CAST (unlike LANES), INDEX",
        "Of a call the first that is come to, in the order told"})
    private static void copyNullAheadOfIndex() {
        Edges.faulted(x -> x.copy(3, -1, 0, 0, 0), NULL, 1);
        Edges.faulted(x -> x.copy(0, -1, 3, 0, 9), NULL, 1);
    }

    @Edge(of = 29, says = {"CAST (unlike LANES), INDEX", "Of a call the first that is come to, in the order told"})
    private static void copyCastAheadOfIndex() {
        Edges.faulted(x -> x.copy(0, -1, 1, 0, 1), CAST, 2);
        Edges.faulted(x -> x.copy(0, 0, 1, 0, -1), CAST, 2);
        Edges.faulted(x -> x.copy(0, 0, 1, 0, 9), CAST, 2);
    }

    /** Sheet 0 has four bytes, sheet 1 has three, none of them 0. */
    private static RateTree fourAndThree() {
        RateTree x = new RateTree();
        x.sheet(0, 0, 4);
        x.sheet(1, 0, 3);
        for (int i = 0; i < 4; i++) {
            x.put(0, i, i + 1);
            x.put(1, i, -i - 1);
        }
        x.put(3, 0, 0);
        return x;
    }

    private static void copyIndex(int i, int j, int n) {
        Edges.faulted(SheetEdgesTest::fourAndThree, x -> x.copy(0, i, 1, j, n), INDEX, 3);
    }

    @Edge(of = 29, says = "INDEX: i, j, n below 0 or beyond.")
    private static void copyFromBelowZero() {
        copyIndex(-1, 0, 1);
        copyIndex(-1, 0, 0);
        copyIndex(LEAST, 0, 1);
    }

    @Edge(of = 29, says = "INDEX: i, j, n below 0 or beyond.")
    private static void copyToBelowZero() {
        copyIndex(0, -1, 1);
        copyIndex(0, -1, 0);
        copyIndex(0, LEAST, 1);
    }

    @Edge(of = 29, says = "INDEX: i, j, n below 0 or beyond.")
    private static void copyOfFewerThanNoCells() {
        copyIndex(0, 0, -1);
        copyIndex(4, 3, -1);
        copyIndex(0, 0, LEAST);
    }

    @Edge(of = 29, says = "INDEX: i, j, n below 0 or beyond.")
    private static void copyFromBeyond() {
        copyIndex(4, 0, 1);
        copyIndex(2, 0, 3);
        copyIndex(5, 0, 0);
        copyIndex(GREATEST, 0, 1);
    }

    @Edge(of = 29, says = "INDEX: i, j, n below 0 or beyond.")
    private static void copyToBeyond() {
        copyIndex(0, 3, 1);
        copyIndex(0, 1, 3);
        copyIndex(0, 4, 0);
        copyIndex(0, GREATEST, 1);
    }

    @Edge(of = 29, says = "INDEX: i, j, n below 0 or beyond.")
    private static void copyOfMoreCellsThanThereAre() {
        copyIndex(0, 0, 4);
        copyIndex(0, 0, 5);
        copyIndex(0, 0, GREATEST);
        copyIndex(1, 1, GREATEST);
        copyIndex(GREATEST, GREATEST, GREATEST);
    }

    private static void row(RateTree x, int k, int... want) {
        for (int i = 0; i < want.length; i++) {
            Due.due("cell " + i + " of " + k, x.cell(k, i, 0), want[i]);
        }
    }

    @Edge(of = 29,
        says = "n cells of a SHEET from i on go to another one (perhaps the same) from j on, as they were: n.")
    private static void copyOfNoCellsAtTheEnds() {
        RateTree x = fourAndThree();
        Due.due("copy", x.copy(0, 4, 1, 3, 0), 0);
        Due.due("fault()", x.fault(), 0);
        row(x, 1, -1, -2, -3);
    }

    @Edge(of = 29,
        says = "n cells of a SHEET from i on go to another one (perhaps the same) from j on, as they were: n.")
    private static void copyToTheLastCell() {
        RateTree x = fourAndThree();
        Due.due("copy", x.copy(0, 1, 1, 0, 3), 3);
        Due.due("fault()", x.fault(), 0);
        row(x, 0, 1, 2, 3, 4);
        row(x, 1, 2, 3, 4);
    }

    @Edge(of = 29,
        says = "n cells of a SHEET from i on go to another one (perhaps the same) from j on, as they were: n.")
    private static void copyOnwardInItself() {
        RateTree x = fourAndThree();
        Due.due("copy", x.copy(0, 0, 0, 1, 3), 3);
        row(x, 0, 1, 1, 2, 3);
    }

    @Edge(of = 29,
        says = "n cells of a SHEET from i on go to another one (perhaps the same) from j on, as they were: n.")
    private static void copyBackInItself() {
        RateTree x = fourAndThree();
        Due.due("copy", x.copy(0, 1, 0, 0, 3), 3);
        row(x, 0, 2, 3, 4, 4);
    }

    @Edge(of = 29,
        says = "n cells of a SHEET from i on go to another one (perhaps the same) from j on, as they were: n.")
    private static void copyOfAllOntoItself() {
        RateTree x = fourAndThree();
        Due.due("copy", x.copy(0, 0, 0, 0, 4), 4);
        row(x, 0, 1, 2, 3, 4);
    }

    @Edge(of = 29,
        says = "n cells of a SHEET from i on go to another one (perhaps the same) from j on, as they were: n.")
    private static void copyBetweenRowsOfNoNumbers() {
        RateTree x = new RateTree();
        x.sheet(0, 1, 0);
        x.sheet(1, 1, 0);
        Due.due("copy", x.copy(0, 0, 1, 0, 0), 0);
        Due.due("one", x.copy(0, 0, 1, 0, 1), INDEX);
    }

    // ---- 34 fault

    @Edge(of = 34, says = {"(0 ahead of any)", "of several the first in the order in which a call's line tells them"})
    private static void faultAheadOfAny() {
        Due.due("fault()", new RateTree().fault(), 0);
        RateTree x = Made.sources(1);
        x.set(0, 1);
        x.lose(0);
        Due.due("behind calls that name none", x.fault(), 0);
    }

    @Edge(of = 34, says = "0: it came to none, or was refused")
    private static void faultBehindACallThatCameToNone() {
        RateTree x = Made.rich();
        Due.due("CAST", x.fault(), 2);
        Due.due("as", x.as(0, 0), 1);
        Due.due("none", x.fault(), 0);
    }

    @Edge(of = 34, says = "0: it came to none, or was refused")
    private static void faultBehindARefusedCall() {
        RateTree x = Made.rich();
        Due.due("as", x.as(Made.NODES, 0), UNKNOWN);
        Due.due("refused", x.fault(), 0);
    }

    /** Calls that name no faults leave fault() as it is, refused or not. */
    @Edge(of = 34, says = "The FAULT of the latest call that names one")
    private static void faultBehindCallsThatNameNone() {
        RateTree x = Made.rich();
        x.source(5);
        x.source(0);
        x.limits(0, 0, 700);
        x.set(0, 0);
        x.lock(0, false);
        x.wish(0, 0, 1, 1, 0);
        x.multiple(0, 0, 1, 1);
        x.search(1);
        x.hopeless(1);
        x.change();
        x.step(0);
        x.go();
        x.go();
        x.lose(0);
        x.lose(0);
        x.lose(4);
        x.tell(0);
        x.spread(0);
        x.tell(-1);
        x.spread(-1);
        x.told(9);
        x.trace();
        x.tried();
        x.planned(-1);
        x.rate(-1, 0);
        x.about(-1, 0);
        x.miss(-1);
        x.wished(-1, 0);
        x.sound();
        x.power();
        Due.due("CAST", x.fault(), 2);
        Due.due("asked again", x.fault(), 2);
    }

    @Edge(of = 0, says = {"1 NULL (there is nothing), 2 CAST (it is of another LANE, kind), 3 INDEX",
        "4 SIZE (a length below 0)",
        "it answers -10 less it (LOST, where a long is answered, as for refusals) and changes nothing"})
    private static void faultsAsTheyAreNumbered() {
        RateTree x = Made.rich();
        Due.due("1 NULL", x.put(3, 0, 0), -10 - 1);
        Due.due("fault()", x.fault(), 1);
        Due.due("2 CAST", x.as(0, 1), -10 - 2);
        Due.due("fault()", x.fault(), 2);
        Due.due("3 INDEX", x.put(0, 3, 0), -10 - 3);
        Due.due("fault()", x.fault(), 3);
        Due.due("4 SIZE", x.sheet(0, 0, -1), -10 - 4);
        Due.due("fault()", x.fault(), 4);
    }
}
