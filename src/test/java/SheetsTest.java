/** Promises 14 to 18 and 23: sheet, lose, put, cell, copy, fault. */
public final class SheetsTest {
    private static final int NULL = -11, CAST = -12, INDEX = -13, SIZE = -14;
    private static final Check check = new Check("SheetsTest");

    public static void main(String[] args) {
        sheets();
        loses();
        puts();
        cells();
        copies();
        copyTroubles();
        faults();
        check.end();
    }

    private static void due(FaceGlass x, String call, long got, long want, int fault) {
        check.due(call, got, want);
        check.due("fault() of " + call, x.fault(), fault);
    }

    private static void sheets() {
        FaceGlass x = new FaceGlass();
        for (int k = 0; k < 4; k++) {
            for (int lane = 0; lane < 3; lane++) {
                due(x, "sheet", x.sheet(k, lane, 60), 1, 0);
                due(x, "its last cell", x.cell(k, 59, lane), 0, 0);
                due(x, "none behind", x.cell(k, 60, lane), FaceGlass.LOST, 3);
                x.put(k, 59, 5);
            }
            due(x, "sheet of none", x.sheet(k, 0, 0), 1, 0);
            due(x, "no cell", x.cell(k, 0, 0), FaceGlass.LOST, 3);
            due(x, "sheet again", x.sheet(k, 0, 60), 1, 0);
            due(x, "0 at first again", x.cell(k, 59, 0), 0, 0);
        }
        x.put(1, 2, 9);
        due(x, "size", x.sheet(1, 0, -1), SIZE, 4);
        due(x, "outside ahead of size", x.sheet(1, 3, -1), FaceGlass.OUTSIDE, 0);
        due(x, "size", x.sheet(1, 2, Integer.MIN_VALUE), SIZE, 4);
        due(x, "61", x.sheet(1, 0, 61), FaceGlass.OUTSIDE, 0);
        due(x, "lane -1", x.sheet(1, -1, 1), FaceGlass.OUTSIDE, 0);
        due(x, "sheet 4", x.sheet(4, 3, -1), FaceGlass.UNKNOWN, 0);
        due(x, "sheet -1", x.sheet(-1, 0, 1), FaceGlass.UNKNOWN, 0);
        due(x, "nothing has changed", x.cell(1, 2, 0), 9, 0);
    }

    private static void loses() {
        FaceGlass x = new FaceGlass();
        x.sheet(2, 1, 0);
        due(x, "size", x.sheet(2, 1, -1), SIZE, 4);
        due(x, "lose names no fault", x.lose(2), 1, 4);
        due(x, "lose again", x.lose(2), 0, 4);
        due(x, "lose(4)", x.lose(4), FaceGlass.UNKNOWN, 4);
        due(x, "lose(-1)", x.lose(-1), FaceGlass.UNKNOWN, 4);
        due(x, "put on nothing", x.put(2, 0, 0), NULL, 1);
        x.sheet(2, 1, 3);
        for (int i = 0; i < 3; i++) {
            x.put(2, i, 8);
        }
        x.lose(2);
        x.sheet(2, 1, 3);
        for (int i = 0; i < 3; i++) {
            due(x, "a new row has 0", x.cell(2, i, 1), 0, 0);
        }
    }

    private static void puts() {
        FaceGlass x = new FaceGlass();
        int[] values = {0, 1, -1, 127, 128, 255, 256, -128, -129, 32767, 32768, 65535, 65536, -32768, -32769,
            Integer.MAX_VALUE, Integer.MIN_VALUE, 305419896};
        for (int v : values) {
            for (int lane = 0; lane < 3; lane++) {
                x.sheet(0, lane, 3);
                due(x, "put " + v, x.put(0, 1, v), 1, 0);
                long cut = lane == 0 ? (byte) v : lane == 1 ? (short) v : v;
                due(x, "cell of " + v, x.cell(0, 1, lane), cut, 0);
                due(x, "the cell ahead", x.cell(0, 0, lane), 0, 0);
                due(x, "the cell behind", x.cell(0, 2, lane), 0, 0);
            }
        }
        due(x, "put(4)", x.put(4, 9, 1), FaceGlass.UNKNOWN, 0);
        due(x, "put(-1)", x.put(-1, 0, 1), FaceGlass.UNKNOWN, 0);
        due(x, "put on nothing", x.put(1, -1, 1), NULL, 1);
        due(x, "put at -1", x.put(0, -1, 1), INDEX, 3);
        due(x, "put at 3", x.put(0, 3, 1), INDEX, 3);
        due(x, "put far off", x.put(0, Integer.MAX_VALUE, 1), INDEX, 3);
        due(x, "put at 2", x.put(0, 2, 1), 1, 0);
    }

    private static void cells() {
        FaceGlass x = new FaceGlass();
        Check.row(x, 0, 1, 5, 6, 7);
        due(x, "cell", x.cell(0, 2, 1), 7, 0);
        due(x, "cell of another lane", x.cell(0, 9, 0), FaceGlass.LOST, 2);
        due(x, "cell of another lane", x.cell(0, 0, 2), FaceGlass.LOST, 2);
        due(x, "cell of nothing", x.cell(1, 9, 2), FaceGlass.LOST, 1);
        due(x, "cell behind", x.cell(0, 3, 1), FaceGlass.LOST, 3);
        due(x, "cell ahead", x.cell(0, -1, 1), FaceGlass.LOST, 3);
        due(x, "lane 3", x.cell(0, 0, 3), FaceGlass.LOST, 0);
        due(x, "cell behind", x.cell(0, 3, 1), FaceGlass.LOST, 3);
        due(x, "lane -1", x.cell(0, 0, -1), FaceGlass.LOST, 0);
        due(x, "cell behind", x.cell(0, 3, 1), FaceGlass.LOST, 3);
        due(x, "sheet 4", x.cell(4, 0, 1), FaceGlass.LOST, 0);
        due(x, "sheet -1", x.cell(-1, 0, 1), FaceGlass.LOST, 0);
    }

    private static void rowIs(FaceGlass x, int k, int lane, int... want) {
        for (int i = 0; i < want.length; i++) {
            check.due("cell " + i + " of sheet " + k, x.cell(k, i, lane), want[i]);
        }
    }

    private static void copies() {
        FaceGlass x = new FaceGlass();
        Check.row(x, 0, 2, 1, 2, 3, 4, 5);
        Check.row(x, 1, 2, 10, 20, 30);
        due(x, "copy", x.copy(0, 1, 1, 0, 2), 2, 0);
        rowIs(x, 1, 2, 2, 3, 30);
        rowIs(x, 0, 2, 1, 2, 3, 4, 5);
        due(x, "copy forward on itself", x.copy(0, 0, 0, 1, 4), 4, 0);
        rowIs(x, 0, 2, 1, 1, 2, 3, 4);
        due(x, "copy backward on itself", x.copy(0, 1, 0, 0, 4), 4, 0);
        rowIs(x, 0, 2, 1, 2, 3, 4, 4);
        due(x, "copy none at the ends", x.copy(0, 5, 1, 3, 0), 0, 0);
        due(x, "copy all", x.copy(1, 0, 0, 2, 3), 3, 0);
        rowIs(x, 0, 2, 1, 2, 2, 3, 30);
    }

    private static void copyTroubles() {
        FaceGlass x = new FaceGlass();
        Check.row(x, 0, 2, 1, 2, 3, 4, 5);
        Check.row(x, 1, 2, 10, 20, 30);
        Check.row(x, 2, 1, 10, 20, 30);
        due(x, "the first unknown", x.copy(4, 0, 3, 0, 1), FaceGlass.UNKNOWN, 0);
        due(x, "the other unknown", x.copy(3, 0, -1, 0, 1), FaceGlass.UNKNOWN, 0);
        due(x, "the first has nothing", x.copy(3, 0, 0, 0, 9), NULL, 1);
        due(x, "the other has nothing", x.copy(0, 0, 3, 0, 9), NULL, 1);
        due(x, "both have nothing", x.copy(3, 0, 3, 0, 0), NULL, 1);
        due(x, "unlike lanes", x.copy(0, 9, 2, 9, 0), CAST, 2);
        int max = Integer.MAX_VALUE;
        int min = Integer.MIN_VALUE;
        int[][] beyond = {{-1, 0, 1}, {0, -1, 1}, {0, 0, -1}, {0, 0, 4}, {3, 0, 3}, {0, 1, 3}, {6, 0, 0}, {0, 4, 0},
            {max, 0, 1}, {0, max, 1}, {0, 0, max}, {1, 1, max}, {max, max, max}, {min, 0, 0}, {0, min, 0}, {0, 0, min}};
        for (int[] b : beyond) {
            due(x, "copy beyond", x.copy(0, b[0], 1, b[1], b[2]), INDEX, 3);
        }
        rowIs(x, 0, 2, 1, 2, 3, 4, 5);
        rowIs(x, 1, 2, 10, 20, 30);
        rowIs(x, 2, 1, 10, 20, 30);
    }

    private static void faults() {
        FaceGlass x = Check.withCourt("m;h10;l10");
        Check.row(x, 1, 2, 0, 1);
        x.cell(3, 0, 0);
        check.due("fault()", x.fault(), 1);
        x.ofHead(0, 0);
        x.wear(0, 2);
        x.knows(9, 9);
        x.plan(0, 1, -1);
        x.reading(0, 0, 0);
        x.back(1);
        x.odds(9, 0, 0, 0);
        x.lose(3);
        x.tell(0);
        x.greet(7);
        x.trace();
        x.many(5);
        check.due("calls that name no fault leave it", x.fault(), 1);
        due(x, "visits", x.visits(1, 2, 0, 2, 0), 0, 0);
        x.cell(3, 0, 0);
        due(x, "who", x.who(0, 1, 2, 0, 2), 3, 0);
        x.cell(3, 0, 0);
        due(x, "kinds", x.kinds(0, 1, 2, 0, 2), 7, 0);
        x.cell(3, 0, 0);
        due(x, "wears", x.wears(0, 1, 2, 0, 2), 1022, 0);
        x.cell(3, 0, 0);
        due(x, "as", x.as(0, 0), 1, 0);
        x.cell(3, 0, 0);
        due(x, "as refused", x.as(0, 3), FaceGlass.OUTSIDE, 0);
        x.cell(3, 0, 0);
        due(x, "court with a first fault", x.court(0, 0, 0, 3), -103, 0);
    }
}
