/** Promise 17, cell: the edges. A refusal and each FAULT answer LOST, so fault() tells which came first. */
public final class Promise17CellTest {
    private static final int UNKNOWN = Edges.UNKNOWN, OUTSIDE = Edges.OUTSIDE;
    private static final int NULL = Edges.NULL, CAST = Edges.CAST, INDEX = Edges.INDEX;
    private static final int MIN = Edges.MIN, MAX = Edges.MAX;
    private static final Edges edges = Edges.ofFaultyLongCall("Promise17CellTest");

    public static void main(String[] args) {
        theFirstAndTheLastSheet();
        theFirstAndTheLastCell();
        cellsOfShorterRows();
        theFirstAndTheLastLane();
        nothingIsNoCast();
        theLeastAndTheMost();
        refusalsInOrder();
        edges.end();
    }

    private static void theFirstAndTheLastSheet() {
        edges.at(() -> Scene.hallWithRow(0, 8));
        edges.refused("SHEET -1", x -> x.cell(-1, 0, 0), UNKNOWN);
        edges.leaving("SHEET 0", x -> x.cell(0, 0, 0), 'm');
        edges.leaving("SHEET 3", x -> x.cell(3, 0, 0), 8);
        edges.refused("SHEET 4", x -> x.cell(4, 0, 0), UNKNOWN);
    }

    private static void theFirstAndTheLastCell() {
        for (int l = 0; l < 3; l++) {
            int lane = l;
            edges.at(() -> {
                FaceGlass x = Scene.hallWithRow(lane, new int[60]);
                x.put(3, 0, 11);
                x.put(3, 59, 12);
                return x;
            });
            edges.refused("cell -1", x -> x.cell(3, -1, lane), INDEX);
            edges.leaving("cell 0", x -> x.cell(3, 0, lane), 11);
            edges.leaving("cell 59", x -> x.cell(3, 59, lane), 12);
            edges.refused("cell 60", x -> x.cell(3, 60, lane), INDEX);
        }
    }

    private static void cellsOfShorterRows() {
        edges.at(Scene::hall);
        edges.leaving("the last of 6", x -> x.cell(1, 5, 2), -1);
        edges.refused("one more than 6", x -> x.cell(1, 6, 2), INDEX);
        edges.refused("of a row of none", x -> x.cell(2, 0, 1), INDEX);
        edges.refused("of a row of none, -1", x -> x.cell(2, -1, 1), INDEX);
        edges.refused("of a row of none, of another LANE", x -> x.cell(2, 0, 2), CAST);
    }

    private static void theFirstAndTheLastLane() {
        for (int l = 0; l < 3; l++) {
            int lane = l;
            edges.at(() -> Scene.hallWithRow(lane, 8));
            edges.refused("LANE -1", x -> x.cell(3, 0, -1), OUTSIDE);
            for (int as = 0; as < 3; as++) {
                int asLane = as;
                if (as == lane) {
                    edges.leaving("LANE " + as, x -> x.cell(3, 0, asLane), 8);
                } else {
                    edges.refused("LANE " + as + " of " + lane, x -> x.cell(3, 0, asLane), CAST);
                }
            }
            edges.refused("LANE 3", x -> x.cell(3, 0, 3), OUTSIDE);
        }
    }

    private static void nothingIsNoCast() {
        edges.at(FaceGlass::new);
        for (int l = 0; l < 3; l++) {
            int lane = l;
            edges.refused("nothing as of LANE " + l, x -> x.cell(3, 0, lane), NULL);
            edges.refused("nothing as of LANE " + l + ", and no such cell", x -> x.cell(3, -1, lane), NULL);
        }
        edges.at(() -> {
            FaceGlass x = Scene.hallWithRow(1, 8);
            x.lose(3);
            return x;
        });
        edges.refused("a row that was lost", x -> x.cell(3, 0, 1), NULL);
        edges.refused("a row that was lost, as of another LANE", x -> x.cell(3, 0, 2), NULL);
    }

    private static void theLeastAndTheMost() {
        edges.at(() -> Scene.hallWithRow(0, -128, 127));
        edges.leaving("the least byte", x -> x.cell(3, 0, 0), -128);
        edges.leaving("the most of bytes", x -> x.cell(3, 1, 0), 127);
        edges.at(() -> Scene.hallWithRow(1, -32768, 32767));
        edges.leaving("the least short", x -> x.cell(3, 0, 1), -32768);
        edges.leaving("the most of shorts", x -> x.cell(3, 1, 1), 32767);
        edges.at(() -> Scene.hallWithRow(2, MIN, MAX));
        edges.leaving("the least int is not LOST", x -> x.cell(3, 0, 2), -2147483648L);
        edges.leaving("the most of ints", x -> x.cell(3, 1, 2), 2147483647L);
    }

    private static void refusalsInOrder() {
        edges.at(Scene::hall);
        edges.inOrder((x, a) -> x.cell(a[0], a[1], a[2]), new int[] {1, 5, 2}, new int[][] {
            {UNKNOWN, 0, -1, 4, MIN, MAX}, {OUTSIDE, 2, -1, 3, MIN, MAX}, {NULL, 0, 3}, {CAST, 2, 0, 1},
            {INDEX, 1, -1, 6, 60, MIN, MAX}});
    }
}
