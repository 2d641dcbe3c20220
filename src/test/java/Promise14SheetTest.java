/** Promise 14, sheet: the edges. */
public final class Promise14SheetTest {
    private static final int UNKNOWN = Edges.UNKNOWN, OUTSIDE = Edges.OUTSIDE, SIZE = Edges.SIZE;
    private static final int MIN = Edges.MIN, MAX = Edges.MAX;
    private static final Edges edges = Edges.ofFaultyCall("Promise14SheetTest");

    public static void main(String[] args) {
        theFirstAndTheLastSheet();
        theFirstAndTheLastLane();
        noneToSixtyCells();
        zeroAtFirst();
        inPlaceOfARow();
        itAlone();
        refusalsInOrder();
        edges.end();
    }

    private static void theFirstAndTheLastSheet() {
        edges.at(Scene::hall);
        edges.refused("SHEET -1", x -> x.sheet(-1, 0, 1), UNKNOWN);
        for (int k = 0; k < 4; k++) {
            int sheet = k;
            edges.taken("SHEET " + k, x -> x.sheet(sheet, 0, 1), 1);
        }
        edges.refused("SHEET 4", x -> x.sheet(4, 0, 1), UNKNOWN);
    }

    private static void theFirstAndTheLastLane() {
        edges.at(Scene::hall);
        edges.refused("LANE -1", x -> x.sheet(0, -1, 1), OUTSIDE);
        for (int k = 0; k < 3; k++) {
            int lane = k;
            edges.taken("LANE " + k, x -> x.sheet(3, lane, 1), 1);
            edges.seen("is of LANE " + k, x -> x.sheet(3, lane, 1) == 1 ? x.cell(3, 0, lane) : 99, 0);
            edges.seen("is of no other", x -> x.sheet(3, lane, 1) == 1 ? x.cell(3, 0, (lane + 1) % 3) : 99,
                FaceGlass.LOST);
        }
        edges.refused("LANE 3", x -> x.sheet(0, 3, 1), OUTSIDE);
    }

    private static long behind(FaceGlass x, int lane, int n, int i) {
        return x.sheet(3, lane, n) == 1 ? x.put(3, i, 5) : 99;
    }

    private static void noneToSixtyCells() {
        edges.at(Scene::hall);
        for (int k = 0; k < 3; k++) {
            int lane = k;
            edges.refused("n -1", x -> x.sheet(0, lane, -1), SIZE);
            edges.taken("n 0", x -> x.sheet(0, lane, 0), 1);
            edges.seen("no cell of none", x -> behind(x, lane, 0, 0), Edges.INDEX);
            edges.seen("a row of none is not nothing", x -> x.sheet(3, lane, 0) == 1 ? x.lose(3) : 99, 1);
            edges.taken("n 1", x -> x.sheet(0, lane, 1), 1);
            edges.seen("the cell of one", x -> behind(x, lane, 1, 0), 1);
            edges.seen("no second cell of one", x -> behind(x, lane, 1, 1), Edges.INDEX);
            edges.taken("n 60", x -> x.sheet(0, lane, 60), 1);
            edges.seen("the last cell of 60", x -> behind(x, lane, 60, 59), 1);
            edges.seen("none behind 60", x -> behind(x, lane, 60, 60), Edges.INDEX);
            edges.refused("n 61", x -> x.sheet(0, lane, 61), OUTSIDE);
        }
    }

    private static FaceGlass full() {
        FaceGlass x = new FaceGlass();
        x.sheet(0, 2, 60);
        for (int i = 0; i < 60; i++) {
            x.put(0, i, 7 + i);
        }
        return x;
    }

    private static void zeroAtFirst() {
        edges.at(Promise14SheetTest::full);
        for (int c = 0; c < 60; c++) {
            int i = c;
            edges.seen("cell " + c + " of a new row", x -> x.sheet(0, 2, 60) == 1 ? x.cell(0, i, 2) : 99, 0);
            edges.seen("cell " + c + " behind a shorter row",
                x -> x.sheet(0, 2, 3) == 1 && x.sheet(0, 2, 60) == 1 ? x.cell(0, i, 2) : 99, 0);
            edges.seen("cell " + c + " behind nothing",
                x -> x.lose(0) == 1 && x.sheet(0, 2, 60) == 1 ? x.cell(0, i, 2) : 99, 0);
        }
    }

    private static void inPlaceOfARow() {
        edges.at(Scene::hall);
        edges.seen("fewer cells", x -> x.sheet(1, 2, 2) == 1 ? x.put(1, 2, 0) : 99, Edges.INDEX);
        edges.seen("more cells", x -> x.sheet(1, 2, 7) == 1 ? x.put(1, 6, 0) : 99, 1);
        edges.seen("another LANE", x -> x.sheet(1, 0, 6) == 1 ? x.cell(1, 0, 2) : 99, FaceGlass.LOST);
    }

    private static void itAlone() {
        edges.at(Scene::hall);
        edges.seen("the one ahead", x -> x.sheet(1, 0, 60) == 1 ? x.cell(0, 0, 0) : 99, 'm');
        edges.seen("the one behind", x -> x.sheet(0, 0, 60) == 1 ? x.cell(1, 1, 2) : 99, 2);
        edges.seen("the COURT of a text", x -> x.sheet(0, 0, 60) == 1 ? x.many(0) : 99, 3);
        edges.seen("nothing stays nothing", x -> x.sheet(2, 0, 60) == 1 ? x.lose(3) : 99, 0);
    }

    private static void refusalsInOrder() {
        edges.at(Scene::hall);
        edges.inOrder((x, a) -> x.sheet(a[0], a[1], a[2]), new int[] {0, 2, 60}, new int[][] {
            {UNKNOWN, 0, -1, 4, MIN, MAX}, {OUTSIDE, 1, -1, 3, MIN, MAX}, {OUTSIDE, 2, 61, MAX},
            {SIZE, 2, -1, -60, MIN}});
    }
}
