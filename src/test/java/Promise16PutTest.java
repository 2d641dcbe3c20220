/** Promise 16, put: the edges. */
public final class Promise16PutTest {
    private static final int UNKNOWN = Edges.UNKNOWN, NULL = Edges.NULL, INDEX = Edges.INDEX;
    private static final int MIN = Edges.MIN, MAX = Edges.MAX;
    private static final Edges edges = Edges.ofFaultyCall("Promise16PutTest");

    public static void main(String[] args) {
        theFirstAndTheLastSheet();
        theFirstAndTheLastCell();
        cellsOfShorterRows();
        cutToBytes();
        cutToShorts();
        intsWhole();
        thatCellAlone();
        refusalsInOrder();
        edges.end();
    }

    private static void theFirstAndTheLastSheet() {
        edges.at(() -> Scene.hallWithRow(0, 1));
        edges.refused("SHEET -1", x -> x.put(-1, 0, 1), UNKNOWN);
        edges.taken("SHEET 0", x -> x.put(0, 0, 1), 1);
        edges.taken("SHEET 3", x -> x.put(3, 0, 1), 1);
        edges.refused("SHEET 4", x -> x.put(4, 0, 1), UNKNOWN);
    }

    private static void theFirstAndTheLastCell() {
        for (int lane = 0; lane < 3; lane++) {
            int asLane = lane;
            edges.at(() -> Scene.hallWithRow(asLane, new int[60]));
            edges.refused("cell -1", x -> x.put(3, -1, 1), INDEX);
            edges.taken("cell 0", x -> x.put(3, 0, 1), 1);
            edges.taken("cell 59", x -> x.put(3, 59, 1), 1);
            edges.refused("cell 60", x -> x.put(3, 60, 1), INDEX);
        }
    }

    private static void cellsOfShorterRows() {
        edges.at(Scene::hall);
        edges.refused("of a row of none", x -> x.put(2, 0, 1), INDEX);
        edges.refused("of a row of none, -1", x -> x.put(2, -1, 1), INDEX);
        edges.refused("of nothing", x -> x.put(3, 0, 1), NULL);
        edges.at(() -> Scene.hallWithRow(0, 1));
        edges.taken("cell 0 of one", x -> x.put(3, 0, 1), 1);
        edges.refused("cell 1 of one", x -> x.put(3, 1, 1), INDEX);
    }

    private static void cut(int lane, int v, int due) {
        edges.at(() -> Scene.hallWithRow(lane, 3, 3, 3));
        edges.taken("put " + v, x -> x.put(3, 1, v), 1);
        edges.seen(v + " as of LANE " + lane, x -> x.put(3, 1, v) == 1 ? x.cell(3, 1, lane) : 99, due);
    }

    private static void cutToBytes() {
        int[][] cuts = {{-129, 127}, {-128, -128}, {-1, -1}, {0, 0}, {127, 127}, {128, -128}, {255, -1}, {256, 0},
            {257, 1}, {-256, 0}, {32767, -1}, {65536, 0}, {MAX, -1}, {MIN, 0}};
        for (int[] c : cuts) {
            cut(0, c[0], c[1]);
        }
    }

    private static void cutToShorts() {
        int[][] cuts = {{-32769, 32767}, {-32768, -32768}, {-129, -129}, {0, 0}, {128, 128}, {256, 256},
            {32767, 32767}, {32768, -32768}, {65535, -1}, {65536, 0}, {-65536, 0}, {MAX, -1}, {MIN, 0}};
        for (int[] c : cuts) {
            cut(1, c[0], c[1]);
        }
    }

    private static void intsWhole() {
        for (int v : new int[] {MIN, -65537, -32769, -1, 0, 32768, 65536, MAX}) {
            cut(2, v, v);
        }
    }

    private static void thatCellAlone() {
        edges.at(() -> Scene.hallWithRow(2, 3, 3, 3));
        edges.seen("the one ahead", x -> x.put(3, 1, MIN) == 1 ? x.cell(3, 0, 2) : 99, 3);
        edges.seen("the one behind", x -> x.put(3, 1, MIN) == 1 ? x.cell(3, 2, 2) : 99, 3);
        edges.seen("that of another SHEET", x -> x.put(3, 1, MIN) == 1 ? x.cell(1, 1, 2) : 99, 2);
        edges.seen("the COURT of a text", x -> x.put(0, 3, '9') == 1 ? x.ofHead(0, 1) : 99, 1);
    }

    private static void refusalsInOrder() {
        edges.at(Scene::hall);
        edges.inOrder((x, a) -> x.put(a[0], a[1], a[2]), new int[] {1, 5, MAX}, new int[][] {
            {UNKNOWN, 0, -1, 4, MIN, MAX}, {NULL, 0, 3}, {INDEX, 1, -1, 6, 60, MIN, MAX}});
    }
}
