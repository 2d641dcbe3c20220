/** Promise 15, lose: the edges. */
public final class Promise15LoseTest {
    private static final int UNKNOWN = Edges.UNKNOWN;
    private static final Edges edges = Edges.ofPlainCall("Promise15LoseTest");

    public static void main(String[] args) {
        theFirstAndTheLastSheet();
        itHadNothing();
        itHasNothing();
        itAlone();
        edges.end();
    }

    private static FaceGlass all() {
        FaceGlass x = Scene.hall();
        x.sheet(3, 2, 1);
        return x;
    }

    private static void theFirstAndTheLastSheet() {
        edges.at(Promise15LoseTest::all);
        for (int k : new int[] {-1, 4, Edges.MIN, Edges.MAX}) {
            edges.refused("SHEET " + k, x -> x.lose(k), UNKNOWN);
        }
        for (int k = 0; k < 4; k++) {
            int sheet = k;
            edges.taken("SHEET " + k, x -> x.lose(sheet), 1);
        }
    }

    private static void itHadNothing() {
        edges.at(Scene::hall);
        edges.leaving("nothing", x -> x.lose(3), 0);
        edges.taken("a row of none is not nothing", x -> x.lose(2), 1);
        for (int k = 0; k < 4; k++) {
            int sheet = k;
            edges.at(FaceGlass::new);
            edges.leaving("nothing at first", x -> x.lose(sheet), 0);
            edges.at(Promise15LoseTest::all);
            edges.seen("lost twice", x -> x.lose(sheet) == 1 ? x.lose(sheet) : 99, 0);
        }
    }

    private static void itHasNothing() {
        edges.at(() -> {
            FaceGlass x = Scene.hall();
            x.lose(1);
            return x;
        });
        edges.seen("put", x -> x.put(1, 0, 0), Edges.NULL);
        edges.seen("cell", x -> x.cell(1, 0, 2), FaceGlass.LOST);
        edges.seen("fault() of cell", x -> x.cell(1, 0, 2) == FaceGlass.LOST ? x.fault() : 99, 1);
        edges.seen("court", x -> x.court(1, 2, 0, 0), Edges.NULL);
        edges.seen("visits", x -> x.visits(1, 2, 0, 0, 0), Edges.NULL);
        edges.seen("copy", x -> x.copy(1, 0, 0, 0, 0), Edges.NULL);
        edges.seen("copy to it", x -> x.copy(0, 0, 1, 0, 0), Edges.NULL);
        edges.seen("a new row", x -> x.sheet(1, 2, 1), 1);
    }

    private static void itAlone() {
        edges.at(Scene::hall);
        edges.seen("the one ahead", x -> x.lose(1) == 1 ? x.cell(0, 0, 0) : 99, 'm');
        edges.seen("the one behind", x -> x.lose(0) == 1 ? x.cell(1, 1, 2) : 99, 2);
        edges.seen("the COURT of a text", x -> x.lose(0) == 1 ? x.many(0) : 99, 3);
        edges.seen("READINGS", x -> x.lose(0) == 1 ? x.many(1) : 99, 2);
    }
}
