/** Promise 11, kinds: the edges. */
public final class Promise11KindsTest {
    private static final int UNKNOWN = Edges.UNKNOWN, OUTSIDE = Edges.OUTSIDE, NONE = Edges.NONE;
    private static final int NULL = Edges.NULL, CAST = Edges.CAST, INDEX = Edges.INDEX;
    private static final int MIN = Edges.MIN, MAX = Edges.MAX;
    private static final Edges edges = Edges.ofFaultyCall("Promise11KindsTest");

    public static void main(String[] args) {
        theFirstAndTheLastHead();
        noneToTwentyVisits();
        asOftenAsEachKindLasts();
        byTheWearAsItIsNow();
        inPlaceOfOneHeadsAlone();
        readingsBehindNoneAndAll();
        eightReadings();
        moreVisitsThanAreTold();
        rowsThatAreThere();
        cellsThatAreHeads();
        withoutACourt();
        refusalsInOrder();
        edges.end();
    }

    private static FaceGlass read(FaceGlass x, int t, int p, int face) {
        x.reading(t, p, face);
        return x;
    }

    private static void theFirstAndTheLastHead() {
        String five = "m;h10;h10;h10;h10;h10";
        for (int n = 2; n <= 5; n++) {
            int heads = n;
            edges.at(() -> Scene.courtWithRow(five.substring(0, 1 + 4 * heads), 0));
            edges.refused("HEAD -1 of " + n, x -> x.kinds(-1, 1, 2, 0, 1), UNKNOWN);
            edges.leaving("HEAD 0 of " + n, x -> x.kinds(0, 1, 2, 0, 1), 7);
            edges.leaving("the last HEAD of " + n, x -> x.kinds(heads - 1, 1, 2, 0, 1), 7);
            edges.refused("one more than " + n, x -> x.kinds(heads, 1, 2, 0, 1), UNKNOWN);
        }
    }

    private static void noneToTwentyVisits() {
        edges.at(() -> Scene.courtWithRow("m;s90;s90", new int[21]));
        edges.refused("-1", x -> x.kinds(0, 1, 2, 0, -1), OUTSIDE);
        edges.leaving("0", x -> x.kinds(0, 1, 2, 0, 0), 7);
        edges.leaving("20", x -> x.kinds(0, 1, 2, 0, 20), 0b110);
        edges.refused("21", x -> x.kinds(0, 1, 2, 0, 21), OUTSIDE);
    }

    /** WEAR 1: a HEAD's MASK is TAKEN once, a LORD's twice, a SPY's four times: at the VISITS 1, 3, 5, 7. */
    private static void asOftenAsEachKindLasts() {
        int[] due = {7, 7, 7, 7, 6, 6, 4, 4, 4, 4, 0};
        for (int n = 0; n < due.length; n++) {
            int visits = n;
            for (String letter : new String[] {"h", "l", "s"}) {
                edges.at(() -> Scene.courtWithRow("m;" + letter + "10;h90", new int[20]));
                edges.leaving(letter + " by " + n, x -> x.kinds(0, 1, 2, 0, visits), due[n]);
            }
        }
    }

    private static void byTheWearAsItIsNow() {
        edges.at(() -> {
            FaceGlass x = Scene.courtWithRow("m;h10;h90", new int[20]);
            x.wear(0, 9);
            return x;
        });
        edges.leaving("18 by WEAR 9", x -> x.kinds(0, 1, 2, 0, 18), 7);
        edges.leaving("19 by WEAR 9", x -> x.kinds(0, 1, 2, 0, 19), 7);
        edges.leaving("20 by WEAR 9", x -> x.kinds(0, 1, 2, 0, 20), 6);
        edges.seen("its kind stays", x -> x.kinds(0, 1, 2, 0, 20) == 6 ? x.ofHead(0, 0) : 99, 0);
        edges.seen("how long it LASTS stays", x -> x.kinds(0, 1, 2, 0, 20) == 6 ? x.ofHead(0, 3) : 99, 9);
    }

    private static void inPlaceOfOneHeadsAlone() {
        edges.at(() -> Scene.courtWithRow("m;h10;h10", 0, 0, 0, 0));
        edges.leaving("its own MASK was TAKEN too often", x -> x.kinds(0, 1, 2, 0, 4), 6);
        edges.leaving("another's MASK was TAKEN too often", x -> x.kinds(1, 1, 2, 0, 4), 0);
        edges.leaving("no MASK was", x -> x.kinds(1, 1, 2, 0, 3), 7);
    }

    private static void readingsBehindNoneAndAll() {
        edges.at(() -> read(Scene.courtWithRow("m;h90;h90", 0, 0), 0, 0, 0));
        edges.leaving("so at the beginning", x -> x.kinds(1, 1, 2, 0, 2), 7);
        edges.at(() -> read(Scene.courtWithRow("m;h90;h90", 0, 0), 0, 0, NONE));
        edges.leaving("not so at the beginning", x -> x.kinds(1, 1, 2, 0, 2), 0);
        edges.leaving("not so, by no VISITS", x -> x.kinds(1, 1, 2, 0, 0), 0);
        edges.at(() -> read(Scene.courtWithRow("m;h90;h90", 0, 0), 1, 0, NONE));
        edges.leaving("so amid them", x -> x.kinds(1, 1, 2, 0, 2), 7);
        edges.at(() -> read(Scene.courtWithRow("m;h90;h90", 0, 0), 2, 0, NONE));
        edges.leaving("not so behind all", x -> x.kinds(1, 1, 2, 0, 2), 0);
    }

    /** Seven that are so, and an eighth. */
    private static FaceGlass eight(int t, int p, int face) {
        FaceGlass x = Scene.courtWithRow("m;h90;h90", 0, 0);
        for (int k = 0; k < 7; k++) {
            x.reading(1, 0, NONE);
        }
        x.reading(t, p, face);
        return x;
    }

    private static void eightReadings() {
        edges.at(() -> eight(0, 1, 1));
        edges.leaving("all are so", x -> x.kinds(1, 1, 2, 0, 2), 7);
        edges.at(() -> eight(0, 1, 0));
        edges.leaving("the eighth is not so", x -> x.kinds(1, 1, 2, 0, 2), 0);
        edges.at(() -> eight(3, 1, 1));
        edges.leaving("the eighth is behind more VISITS than are told", x -> x.kinds(1, 1, 2, 0, 2), 0);
    }

    private static void moreVisitsThanAreTold() {
        edges.at(() -> read(Scene.courtWithRow("m;h90;h90", 0, 0, 0), 2, 1, 1));
        edges.leaving("as many", x -> x.kinds(0, 1, 2, 0, 2), 7);
        edges.leaving("more", x -> x.kinds(0, 1, 2, 0, 3), 7);
        edges.leaving("fewer", x -> x.kinds(0, 1, 2, 0, 1), 0);
        edges.leaving("none", x -> x.kinds(0, 1, 2, 0, 0), 0);
    }

    private static void rowsThatAreThere() {
        edges.at(() -> Scene.courtWithRow("m;h10;h90", 1, 0, 0, 0, 0));
        edges.leaving("from amid the row on, to its end", x -> x.kinds(0, 1, 2, 1, 4), 6);
        edges.leaving("none, at the end", x -> x.kinds(0, 1, 2, 5, 0), 7);
        edges.refused("none, beyond the end", x -> x.kinds(0, 1, 2, 6, 0), INDEX);
        edges.refused("none, ahead of the row", x -> x.kinds(0, 1, 2, -1, 0), INDEX);
        edges.refused("one more than there are", x -> x.kinds(0, 1, 2, 1, 5), INDEX);
        edges.refused("i and n that wrap", x -> x.kinds(0, 1, 2, MAX, 20), INDEX);
        edges.refused("nothing is no CAST", x -> x.kinds(0, 3, 0, 0, 0), NULL);
    }

    private static void cellsThatAreHeads() {
        edges.at(Scene::hall);
        edges.leaving("HEADS alone", x -> x.kinds(0, 1, 2, 0, 4), 7);
        edges.refused("the first number that no HEAD has", x -> x.kinds(0, 1, 2, 0, 5), UNKNOWN);
        edges.refused("-1", x -> x.kinds(0, 1, 2, 5, 1), UNKNOWN);
        edges.at(() -> Scene.courtWithRow("m;h10;h10", 0, 0, 0, 0, 2));
        edges.refused("ahead of what can't be", x -> x.kinds(1, 1, 2, 0, 5), UNKNOWN);
    }

    /** There is no HEAD then, which is told ahead of that there is no COURT, and of FAULTS. */
    private static void withoutACourt() {
        edges.at(Scene::withoutCourt);
        edges.refused("of a row", x -> x.kinds(0, 1, 2, 0, 0), UNKNOWN);
        edges.refused("of nothing", x -> x.kinds(0, 3, 2, 0, 0), UNKNOWN);
    }

    private static void refusalsInOrder() {
        edges.at(Scene::hall);
        edges.inOrder((x, a) -> x.kinds(a[0], a[1], a[2], a[3], a[4]), new int[] {2, 1, 2, 0, 4}, new int[][] {
            {UNKNOWN, 0, -1, 3, NONE, MIN, MAX}, {UNKNOWN, Edges.OBJECT, 0}, {UNKNOWN, 1, -1, 4, MIN, MAX},
            {OUTSIDE, 2, -1, 3}, {OUTSIDE, 4, -1, 21, MIN, MAX}, {NULL, 1, 3}, {CAST, 2, 0, 1},
            {INDEX, 3, -1, 7, MIN, MAX}, {INDEX, 4, 7, 20}, {UNKNOWN, 3, 1}, {UNKNOWN, 4, 5}});
    }
}
