/** Promises 25 to 29 and 34: sheets, their lanes and faults. */
public final class SheetsTest {
    private static final long LOST = RateTree.LOST;

    public static void main(String[] args) {
        sheet();
        lose();
        put();
        cell();
        copyRefused();
        copy();
        faultStays();
        Due.end();
    }

    private static void sheet() {
        RateTree x = new RateTree();
        x.put(0, 0, 0);
        Due.due("25 sheet 4", x.sheet(4, 9, -1), RateTree.UNKNOWN);
        Due.due("34 refused", x.fault(), 0);
        x.put(0, 0, 0);
        Due.due("25 sheet -1", x.sheet(-1, 0, 1), RateTree.UNKNOWN);
        Due.due("25 lane 3, ahead of SIZE", x.sheet(0, 3, -1), RateTree.OUTSIDE);
        Due.due("25 lane -1", x.sheet(0, -1, 1), RateTree.OUTSIDE);
        Due.due("25 n 25", x.sheet(0, 0, 25), RateTree.OUTSIDE);
        Due.due("34 refused", x.fault(), 0);
        Due.due("25 n -1", x.sheet(0, 0, -1), -14);
        Due.due("34 SIZE", x.fault(), 4);
        Due.due("25 least n", x.sheet(0, 0, Integer.MIN_VALUE), -14);
        Due.due("26 none came", x.lose(0), 0);
        Due.due("25 n 0", x.sheet(0, 0, 0), 1);
        Due.due("34 none", x.fault(), 0);
        Due.due("25 a row of none", x.put(0, 0, 1), -13);
        Due.due("25 n 24", x.sheet(3, 2, 24), 1);
        Due.due("25 zeros", x.cell(3, 23, 2), 0);
        Due.due("25 no more", x.cell(3, 24, 2), LOST);
        x.put(3, 5, 77);
        x.sheet(3, 2, -1);
        Due.due("25 a fault leaves the row", x.cell(3, 5, 2), 77);
        x.sheet(3, 2, 25);
        Due.due("25 a refusal leaves the row", x.cell(3, 5, 2), 77);
        x.sheet(3, 2, 6);
        Due.due("25 a new row is of zeros", x.cell(3, 5, 2), 0);
        Due.due("25 and of its length", x.cell(3, 6, 2), LOST);
        x.put(3, 5, 77);
        x.sheet(3, 2, 2);
        x.sheet(3, 2, 6);
        Due.due("25 zeros, shorter between", x.cell(3, 5, 2), 0);
        x.sheet(3, 1, 6);
        Due.due("25 another lane", x.cell(3, 5, 1), 0);
    }

    private static void lose() {
        RateTree x = new RateTree();
        Due.due("26 sheet 4", x.lose(4), RateTree.UNKNOWN);
        Due.due("26 sheet -1", x.lose(-1), RateTree.UNKNOWN);
        x.sheet(1, 0, 3);
        x.put(1, 1, 5);
        Due.due("26 had", x.lose(1), 1);
        Due.due("26 has nothing", x.lose(1), 0);
        Due.due("26 nothing", x.put(1, 1, 1), -11);
        x.sheet(1, 0, 3);
        Due.due("26 anew", x.cell(1, 1, 0), 0);
        x.sheet(2, 0, 0);
        Due.due("26 a row of none is not nothing", x.lose(2), 1);
    }

    private static void put() {
        RateTree x = new RateTree();
        Due.due("27 sheet 4", x.put(4, -1, 1), RateTree.UNKNOWN);
        Due.due("27 nothing, ahead of INDEX", x.put(0, -1, 1), -11);
        Due.due("34 NULL", x.fault(), 1);
        x.put(-1, 0, 1);
        Due.due("34 refused", x.fault(), 0);
        int[] values = {0, 1, 127, 128, -128, -129, 255, 256, 32767, 32768, -32768, -32769, 65536,
            Integer.MAX_VALUE, Integer.MIN_VALUE};
        for (int lane = 0; lane < 3; lane++) {
            x.sheet(lane, lane, 3);
            Due.due("27 i -1", x.put(lane, -1, 1), -13);
            Due.due("27 i 3", x.put(lane, 3, 1), -13);
            Due.due("27 greatest i", x.put(lane, Integer.MAX_VALUE, 1), -13);
            Due.due("27 least i", x.put(lane, Integer.MIN_VALUE, 1), -13);
            Due.due("34 INDEX", x.fault(), 3);
            for (int v : values) {
                Due.due("27 put", x.put(lane, 2, v), 1);
                int want = lane == 0 ? (byte) v : lane == 1 ? (short) v : v;
                Due.due("27 cut to lane " + lane, x.cell(lane, 2, lane), want);
            }
            Due.due("34 none", x.fault(), 0);
            Due.due("27 the other cells stay", x.cell(lane, 1, lane), 0);
        }
    }

    private static void cell() {
        RateTree x = new RateTree();
        x.sheet(1, 1, 2);
        x.put(1, 0, -5);
        x.put(1, 9, 0);
        Due.due("28 sheet 4", x.cell(4, 0, 0), LOST);
        Due.due("34 refused", x.fault(), 0);
        x.put(1, 9, 0);
        Due.due("28 lane 3", x.cell(1, 0, 3), LOST);
        Due.due("34 refused", x.fault(), 0);
        x.put(1, 9, 0);
        Due.due("28 lane -1, of nothing", x.cell(0, 0, -1), LOST);
        Due.due("34 refused", x.fault(), 0);
        Due.due("28 nothing", x.cell(0, -1, 1), LOST);
        Due.due("34 NULL", x.fault(), 1);
        Due.due("28 CAST ahead of INDEX", x.cell(1, 2, 0), LOST);
        Due.due("34 CAST", x.fault(), 2);
        Due.due("28 another CAST", x.cell(1, 0, 2), LOST);
        Due.due("34 CAST", x.fault(), 2);
        Due.due("28 i 2", x.cell(1, 2, 1), LOST);
        Due.due("34 INDEX", x.fault(), 3);
        Due.due("28 i -1", x.cell(1, -1, 1), LOST);
        Due.due("34 INDEX", x.fault(), 3);
        Due.due("28 its cell", x.cell(1, 0, 1), -5);
        Due.due("34 none", x.fault(), 0);
    }

    private static void copyRefused() {
        RateTree x = new RateTree();
        x.sheet(0, 0, 4);
        x.sheet(1, 1, 4);
        x.sheet(2, 0, 3);
        x.put(3, 0, 0);
        Due.due("29 sheet 4", x.copy(4, 0, 0, 0, 0), RateTree.UNKNOWN);
        Due.due("29 other 4, ahead of NULL", x.copy(3, 0, 4, 0, 0), RateTree.UNKNOWN);
        Due.due("34 refused", x.fault(), 0);
        Due.due("29 nothing", x.copy(3, -1, 0, 0, 0), -11);
        Due.due("29 other nothing", x.copy(0, -1, 3, 0, 0), -11);
        Due.due("29 both nothing", x.copy(3, 0, 3, 0, 0), -11);
        Due.due("34 NULL", x.fault(), 1);
        Due.due("29 lanes, ahead of INDEX", x.copy(0, -1, 1, 0, 1), -12);
        Due.due("29 lanes, none to copy", x.copy(0, 0, 1, 0, 0), -12);
        Due.due("34 CAST", x.fault(), 2);
        int most = Integer.MAX_VALUE;
        int[][] wrong = {{-1, 0, 1}, {0, -1, 1}, {0, 0, -1}, {0, 0, 4}, {1, 0, 4}, {4, 0, 1}, {0, 3, 1}, {5, 0, 0},
            {0, 4, 0}, {most, 0, 1}, {0, most, 1}, {0, 0, most}, {most, most, most}, {1, 1, most},
            {0, 0, Integer.MIN_VALUE}, {4, 3, -1}, {Integer.MIN_VALUE, 0, 0}, {-1, 0, 0}};
        for (int[] w : wrong) {
            Due.due("29 INDEX " + w[0] + " " + w[1] + " " + w[2], x.copy(0, w[0], 2, w[1], w[2]), -13);
            Due.due("34 INDEX", x.fault(), 3);
        }
        Due.due("29 none at the ends", x.copy(0, 4, 2, 3, 0), 0);
        Due.due("34 none", x.fault(), 0);
        Due.due("29 all that there are", x.copy(0, 1, 2, 0, 3), 3);
    }

    private static RateTree counted(int lane) {
        RateTree x = new RateTree();
        x.sheet(0, lane, 6);
        x.sheet(1, lane, 6);
        for (int i = 0; i < 6; i++) {
            x.put(0, i, i + 1);
        }
        return x;
    }

    private static void row(String what, RateTree x, int k, int lane, int... want) {
        for (int i = 0; i < want.length; i++) {
            Due.due(what + ", cell " + i, x.cell(k, i, lane), want[i]);
        }
    }

    private static void copy() {
        for (int lane = 0; lane < 3; lane++) {
            RateTree x = counted(lane);
            Due.due("29 two", x.copy(0, 1, 1, 3, 2), 2);
            row("29 the other", x, 1, lane, 0, 0, 0, 2, 3, 0);
            row("29 the first stays", x, 0, lane, 1, 2, 3, 4, 5, 6);
            x = counted(lane);
            Due.due("29 onward in itself", x.copy(0, 0, 0, 2, 4), 4);
            row("29 as they were", x, 0, lane, 1, 2, 1, 2, 3, 4);
            x = counted(lane);
            Due.due("29 back in itself", x.copy(0, 2, 0, 0, 4), 4);
            row("29 as they were", x, 0, lane, 3, 4, 5, 6, 5, 6);
            x.copy(0, 0, 0, 3, 4);
            row("29 a fault changes nothing", x, 0, lane, 3, 4, 5, 6, 5, 6);
        }
    }

    private static void faultStays() {
        RateTree x = new RateTree();
        x.source(5);
        x.as(0, 1);
        x.lose(0);
        x.lose(9);
        x.tell(0);
        x.tell(9);
        x.spread(0);
        x.search(0);
        x.set(9, 9);
        x.told(9);
        x.change();
        x.go();
        Due.due("34 calls that name none leave it", x.fault(), 2);
        Due.due("34 fault() too", x.fault(), 2);
        x.as(9, 0);
        Due.due("34 refused: 0", x.fault(), 0);
    }
}
