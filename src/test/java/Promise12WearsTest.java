/** Promise 12, wears: the edges. */
public final class Promise12WearsTest {
    private static final int UNKNOWN = Edges.UNKNOWN, OUTSIDE = Edges.OUTSIDE, NONE = Edges.NONE;
    private static final int NULL = Edges.NULL, CAST = Edges.CAST, INDEX = Edges.INDEX;
    private static final int MIN = Edges.MIN, MAX = Edges.MAX;
    /** 1 .. 9 as a set: neither 0 nor 10. */
    private static final int ALL = 0b1111111110;
    private static final Edges edges = Edges.ofFaultyCall("Promise12WearsTest");

    public static void main(String[] args) {
        theFirstAndTheLastHead();
        noneToTwentyVisits();
        asOftenAsEachWearLasts();
        whateverTheWearIsNow();
        inPlaceOfOneHeadsAlone();
        readingsBehindNoneAndAll();
        eightReadings();
        moreVisitsThanAreTold();
        rowsThatAreThere();
        cellsThatAreHeads();
        withoutACourt();
        refusalsInOrder();
        edges.end();
    }

    private static FaceGlass read(FaceGlass x, int t, int p, int face) {
        x.reading(t, p, face);
        return x;
    }

    private static void theFirstAndTheLastHead() {
        String five = "m;h10;h10;h10;h10;h10";
        for (int n = 2; n <= 5; n++) {
            int heads = n;
            edges.at(() -> Scene.courtWithRow(five.substring(0, 1 + 4 * heads), 0));
            edges.refused("HEAD -1 of " + n, x -> x.wears(-1, 1, 2, 0, 1), UNKNOWN);
            edges.leaving("HEAD 0 of " + n, x -> x.wears(0, 1, 2, 0, 1), ALL);
            edges.leaving("the last HEAD of " + n, x -> x.wears(heads - 1, 1, 2, 0, 1), ALL);
            edges.refused("one more than " + n, x -> x.wears(heads, 1, 2, 0, 1), UNKNOWN);
        }
    }

    private static void noneToTwentyVisits() {
        edges.at(() -> Scene.courtWithRow("m;s90;s90", new int[21]));
        edges.refused("-1", x -> x.wears(0, 1, 2, 0, -1), OUTSIDE);
        edges.leaving("0", x -> x.wears(0, 1, 2, 0, 0), ALL);
        edges.leaving("20", x -> x.wears(0, 1, 2, 0, 20), 0b1111110000);
        edges.refused("21", x -> x.wears(0, 1, 2, 0, 21), OUTSIDE);
    }

    /** The MASK of the one HEAD that comes is TAKEN at the VISITS 1, 3, 5 .. 19. */
    private static void asOftenAsEachWearLasts() {
        String[] letters = {"h", "l", "s"};
        for (int kind = 0; kind < 3; kind++) {
            String text = "m;" + letters[kind] + "50;h90";
            edges.at(() -> Scene.courtWithRow(text, new int[20]));
            for (int n = 0; n <= 20; n++) {
                int visits = n;
                int set = 0;
                for (int wear = 1; wear <= 9; wear++) {
                    int lasts = new int[] {wear, wear + 1, 2 * wear + 2}[kind];
                    set |= lasts >= n / 2 ? 1 << wear : 0;
                }
                edges.leaving(text + " by " + n, x -> x.wears(0, 1, 2, 0, visits), set);
            }
        }
        edges.at(() -> Scene.courtWithRow("m;h50;h90", new int[20]));
        edges.leaving("9 alone", x -> x.wears(0, 1, 2, 0, 18), 1 << 9);
        edges.leaving("not even 9", x -> x.wears(0, 1, 2, 0, 20), 0);
    }

    private static void whateverTheWearIsNow() {
        for (int v = 1; v <= 9; v += 8) {
            int wear = v;
            edges.at(() -> {
                FaceGlass x = Scene.courtWithRow("m;h50;h90", new int[4]);
                x.wear(0, wear);
                return x;
            });
            edges.leaving("WEAR " + v, x -> x.wears(0, 1, 2, 0, 4), 0b1111111100);
            edges.seen("the WEAR stays", x -> x.wears(0, 1, 2, 0, 4) > 0 ? x.ofHead(0, 1) : 99, v);
        }
    }

    private static void inPlaceOfOneHeadsAlone() {
        edges.at(() -> Scene.courtWithRow("m;h10;h10", 0, 0, 0, 0));
        edges.leaving("its own MASK was TAKEN too often", x -> x.wears(0, 1, 2, 0, 4), 0b1111111100);
        edges.leaving("another's MASK was TAKEN too often", x -> x.wears(1, 1, 2, 0, 4), 0);
        edges.leaving("no MASK was", x -> x.wears(1, 1, 2, 0, 3), ALL);
    }

    private static void readingsBehindNoneAndAll() {
        edges.at(() -> read(Scene.courtWithRow("m;h90;h90", 0, 0), 0, 0, 0));
        edges.leaving("so at the beginning", x -> x.wears(1, 1, 2, 0, 2), ALL);
        edges.at(() -> read(Scene.courtWithRow("m;h90;h90", 0, 0), 0, 0, NONE));
        edges.leaving("not so at the beginning", x -> x.wears(1, 1, 2, 0, 2), 0);
        edges.leaving("not so, by no VISITS", x -> x.wears(1, 1, 2, 0, 0), 0);
        edges.at(() -> read(Scene.courtWithRow("m;h90;h90", 0, 0), 1, 0, NONE));
        edges.leaving("so amid them", x -> x.wears(1, 1, 2, 0, 2), ALL);
        edges.at(() -> read(Scene.courtWithRow("m;h90;h90", 0, 0), 2, 0, NONE));
        edges.leaving("not so behind all", x -> x.wears(1, 1, 2, 0, 2), 0);
    }

    /** Seven that are so, and an eighth. */
    private static FaceGlass eight(int t, int p, int face) {
        FaceGlass x = Scene.courtWithRow("m;h90;h90", 0, 0);
        for (int k = 0; k < 7; k++) {
            x.reading(1, 0, NONE);
        }
        x.reading(t, p, face);
        return x;
    }

    private static void eightReadings() {
        edges.at(() -> eight(0, 1, 1));
        edges.leaving("all are so", x -> x.wears(1, 1, 2, 0, 2), ALL);
        edges.at(() -> eight(0, 1, 0));
        edges.leaving("the eighth is not so", x -> x.wears(1, 1, 2, 0, 2), 0);
        edges.at(() -> eight(3, 1, 1));
        edges.leaving("the eighth is behind more VISITS than are told", x -> x.wears(1, 1, 2, 0, 2), 0);
    }

    private static void moreVisitsThanAreTold() {
        edges.at(() -> read(Scene.courtWithRow("m;h90;h90", 0, 0, 0), 2, 1, 1));
        edges.leaving("as many", x -> x.wears(0, 1, 2, 0, 2), ALL);
        edges.leaving("more", x -> x.wears(0, 1, 2, 0, 3), ALL);
        edges.leaving("fewer", x -> x.wears(0, 1, 2, 0, 1), 0);
        edges.leaving("none", x -> x.wears(0, 1, 2, 0, 0), 0);
    }

    private static void rowsThatAreThere() {
        edges.at(() -> Scene.courtWithRow("m;h10;h90", 1, 0, 0, 0, 0));
        edges.leaving("from amid the row on, to its end", x -> x.wears(0, 1, 2, 1, 4), 0b1111111100);
        edges.leaving("none, at the end", x -> x.wears(0, 1, 2, 5, 0), ALL);
        edges.refused("none, beyond the end", x -> x.wears(0, 1, 2, 6, 0), INDEX);
        edges.refused("none, ahead of the row", x -> x.wears(0, 1, 2, -1, 0), INDEX);
        edges.refused("one more than there are", x -> x.wears(0, 1, 2, 1, 5), INDEX);
        edges.refused("i and n that wrap", x -> x.wears(0, 1, 2, MAX, 20), INDEX);
        edges.refused("nothing is no CAST", x -> x.wears(0, 3, 0, 0, 0), NULL);
    }

    private static void cellsThatAreHeads() {
        edges.at(Scene::hall);
        edges.leaving("HEADS alone", x -> x.wears(0, 1, 2, 0, 4), ALL);
        edges.refused("the first number that no HEAD has", x -> x.wears(0, 1, 2, 0, 5), UNKNOWN);
        edges.refused("-1", x -> x.wears(0, 1, 2, 5, 1), UNKNOWN);
        edges.at(() -> Scene.courtWithRow("m;h10;h10", 0, 0, 0, 0, 2));
        edges.refused("ahead of what can't be", x -> x.wears(1, 1, 2, 0, 5), UNKNOWN);
    }

    /** There is no HEAD then, which is told ahead of that there is no COURT, and of FAULTS. */
    private static void withoutACourt() {
        edges.at(Scene::withoutCourt);
        edges.refused("of a row", x -> x.wears(0, 1, 2, 0, 0), UNKNOWN);
        edges.refused("of nothing", x -> x.wears(0, 3, 2, 0, 0), UNKNOWN);
    }

    private static void refusalsInOrder() {
        edges.at(Scene::hall);
        edges.inOrder((x, a) -> x.wears(a[0], a[1], a[2], a[3], a[4]), new int[] {2, 1, 2, 0, 4}, new int[][] {
            {UNKNOWN, 0, -1, 3, NONE, MIN, MAX}, {UNKNOWN, Edges.OBJECT, 0}, {UNKNOWN, 1, -1, 4, MIN, MAX},
            {OUTSIDE, 2, -1, 3}, {OUTSIDE, 4, -1, 21, MIN, MAX}, {NULL, 1, 3}, {CAST, 2, 0, 1},
            {INDEX, 3, -1, 7, MIN, MAX}, {INDEX, 4, 7, 20}, {UNKNOWN, 3, 1}, {UNKNOWN, 4, 5}});
    }
}
