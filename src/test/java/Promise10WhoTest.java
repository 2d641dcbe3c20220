/** Promise 10, who: the edges. */
public final class Promise10WhoTest {
    private static final int UNKNOWN = Edges.UNKNOWN, OUTSIDE = Edges.OUTSIDE, STATE = Edges.STATE, NONE = Edges.NONE;
    private static final int NULL = Edges.NULL, CAST = Edges.CAST, INDEX = Edges.INDEX;
    private static final int MIN = Edges.MIN, MAX = Edges.MAX;
    private static final Edges edges = Edges.ofFaultyCall("Promise10WhoTest");

    public static void main(String[] args) {
        theFirstAndTheLastVisit();
        oneToTwentyVisits();
        theFirstAndTheLastHead();
        inPlaceOfOneVisitAlone();
        asOftenAsMasksLast();
        readingsBehindNoneAndAll();
        eightReadings();
        moreVisitsThanAreTold();
        nobody();
        rowsThatAreThere();
        cellsThatAreHeads();
        refusalsInOrder();
        edges.end();
    }

    private static FaceGlass read(FaceGlass x, int... readings) {
        for (int k = 0; k + 2 < readings.length; k += 3) {
            x.reading(readings[k], readings[k + 1], readings[k + 2]);
        }
        return x;
    }

    private static void theFirstAndTheLastVisit() {
        edges.at(Scene::hall);
        edges.refused("t -1", x -> x.who(-1, 1, 2, 0, 4), OUTSIDE);
        edges.leaving("t 0", x -> x.who(0, 1, 2, 0, 4), 1);
        edges.leaving("t 3", x -> x.who(3, 1, 2, 0, 4), 7);
        edges.refused("t 4", x -> x.who(4, 1, 2, 0, 4), OUTSIDE);
    }

    private static void oneToTwentyVisits() {
        edges.at(() -> Scene.courtWithRow("m;s90;s90", new int[21]));
        edges.refused("t 0 of none", x -> x.who(0, 1, 2, 0, 0), OUTSIDE);
        edges.refused("t -1 of none", x -> x.who(-1, 1, 2, 0, 0), OUTSIDE);
        edges.refused("t -2 of -1", x -> x.who(-2, 1, 2, 0, -1), OUTSIDE);
        edges.leaving("t 0 of 1", x -> x.who(0, 1, 2, 0, 1), 3);
        edges.refused("t 1 of 1", x -> x.who(1, 1, 2, 0, 1), OUTSIDE);
        edges.leaving("t 19 of 20", x -> x.who(19, 1, 2, 0, 20), 3);
        edges.refused("t 20 of 20", x -> x.who(20, 1, 2, 0, 20), OUTSIDE);
        edges.refused("t 0 of 21", x -> x.who(0, 1, 2, 0, 21), OUTSIDE);
        edges.refused("t 20 of 21", x -> x.who(20, 1, 2, 0, 21), OUTSIDE);
    }

    private static void theFirstAndTheLastHead() {
        String five = "m;h10;h10;h10;h10;h10";
        for (int n = 2; n <= 5; n++) {
            String text = five.substring(0, 1 + 4 * n);
            int last = n - 1;
            edges.at(() -> Scene.courtWithRow(text, 0));
            edges.leaving("any of " + n, x -> x.who(0, 1, 2, 0, 1), (1 << n) - 1);
            edges.at(() -> read(Scene.courtWithRow(text, 0), 1, last, NONE));
            edges.leaving("the last of " + n, x -> x.who(0, 1, 2, 0, 1), 1 << last);
            edges.at(() -> read(Scene.courtWithRow(text, last), 1, 0, NONE));
            edges.leaving("the first of " + n, x -> x.who(0, 1, 2, 0, 1), 1);
        }
    }

    private static void inPlaceOfOneVisitAlone() {
        edges.at(() -> read(Scene.courtWithRow("m;h90;h90;h90", 1, 2), 2, 0, 2));
        edges.leaving("not even the second", x -> x.who(1, 1, 2, 0, 2), 0);
        edges.at(() -> read(Scene.courtWithRow("m;h90;h90;h90", 2, 1), 2, 0, 2));
        edges.leaving("the second was another", x -> x.who(1, 1, 2, 0, 2), 1);
        edges.leaving("the first was the one", x -> x.who(0, 1, 2, 0, 2), 0);
    }

    /** As it is told, MASK 0 would be TAKEN once more than it LASTS, which does not matter. */
    private static void asOftenAsMasksLast() {
        edges.at(() -> Scene.courtWithRow("m;h10;l10;h90", 0, 0, 0, 0, 0));
        edges.seen("as it is told", x -> x.visits(1, 2, 0, 4, 1), 3);
        edges.leaving("the first", x -> x.who(0, 1, 2, 0, 4), 6);
        edges.leaving("the third", x -> x.who(2, 1, 2, 0, 4), 6);
        edges.leaving("the fourth takes it, whoever it is", x -> x.who(3, 1, 2, 0, 4), 0);
        edges.leaving("one visit fewer", x -> x.who(2, 1, 2, 0, 3), 7);
        edges.leaving("all visits, those behind t, too", x -> x.who(0, 1, 2, 0, 5), 0);
        edges.leaving("all visits, those ahead of t, too", x -> x.who(4, 1, 2, 0, 5), 0);
    }

    private static void readingsBehindNoneAndAll() {
        edges.at(() -> read(Scene.courtWithRow("m;h10;h10", 0, 1), 0, 1, 1));
        edges.leaving("so at the beginning", x -> x.who(0, 1, 2, 0, 2), 3);
        edges.at(() -> read(Scene.courtWithRow("m;h10;h10", 0, 1), 0, 1, 0));
        edges.leaving("not so at the beginning", x -> x.who(0, 1, 2, 0, 2), 0);
        edges.at(() -> read(Scene.courtWithRow("m;h10;h10", 0, 1), 2, 1, 0));
        edges.leaving("so behind all", x -> x.who(0, 1, 2, 0, 2), 1);
        edges.at(() -> read(Scene.courtWithRow("m;h10;h10", 0, 1), 1, 0, NONE, 2, 1, 1));
        edges.leaving("the last not so behind all", x -> x.who(0, 1, 2, 0, 2), 0);
        edges.at(() -> read(Scene.courtWithRow("m;h10;h10", 0, 1), 2, 1, 1, 1, 0, NONE));
        edges.leaving("the first not so behind all", x -> x.who(0, 1, 2, 0, 2), 0);
        edges.at(() -> read(Scene.courtWithRow("m;s90;s90", new int[20]), 20, 0, 0));
        edges.leaving("so behind 20", x -> x.who(19, 1, 2, 0, 20), 1);
    }

    /** Seven that are so, and an eighth. */
    private static FaceGlass eight(int t, int p, int face) {
        FaceGlass x = Scene.courtWithRow("m;h90;h90", 0, 0);
        for (int k = 0; k < 7; k++) {
            x.reading(1, 0, NONE);
        }
        x.reading(t, p, face);
        return x;
    }

    private static void eightReadings() {
        edges.at(() -> eight(0, 1, 1));
        edges.leaving("all are so", x -> x.who(0, 1, 2, 0, 2), 1);
        edges.at(() -> eight(0, 1, 0));
        edges.leaving("the eighth is not so", x -> x.who(0, 1, 2, 0, 2), 0);
        edges.at(() -> eight(3, 1, 1));
        edges.leaving("the eighth is behind more VISITS than are told", x -> x.who(0, 1, 2, 0, 2), 0);
    }

    private static void moreVisitsThanAreTold() {
        edges.at(() -> read(Scene.courtWithRow("m;h90;h90", 0, 0, 0), 2, 1, 1));
        edges.leaving("as many", x -> x.who(1, 1, 2, 0, 2), 1);
        edges.leaving("more", x -> x.who(1, 1, 2, 0, 3), 1);
        edges.leaving("fewer", x -> x.who(0, 1, 2, 0, 1), 0);
    }

    private static void nobody() {
        edges.at(() -> read(Scene.courtWithRow("m;h90;h90", 0), 1, 0, 0, 1, 1, 1));
        edges.leaving("the empty set", x -> x.who(0, 1, 2, 0, 1), 0);
    }

    private static void rowsThatAreThere() {
        edges.at(() -> read(Scene.courtWithRow("m;h90;h90;h90", 1, 0, 2), 2, 2, 0));
        edges.leaving("from the beginning on", x -> x.who(0, 1, 2, 0, 2), 0);
        edges.leaving("from amid the row on, to its end", x -> x.who(0, 1, 2, 1, 2), 1);
        edges.at(Scene::hall);
        edges.refused("i ahead of the row", x -> x.who(0, 1, 2, -1, 1), INDEX);
        edges.refused("the end of the row", x -> x.who(0, 1, 2, 6, 1), INDEX);
        edges.refused("one more than there are", x -> x.who(0, 1, 2, 3, 4), INDEX);
        edges.refused("i and n that wrap", x -> x.who(0, 1, 2, MAX, 20), INDEX);
        edges.refused("one of a row of none", x -> x.who(0, 2, 1, 0, 1), INDEX);
        edges.refused("nothing is no CAST", x -> x.who(0, 3, 0, 0, 1), NULL);
    }

    private static void cellsThatAreHeads() {
        edges.at(Scene::hall);
        edges.refused("the first number that no HEAD has, at t", x -> x.who(4, 1, 2, 0, 5), UNKNOWN);
        edges.refused("the same, not at t", x -> x.who(0, 1, 2, 0, 5), UNKNOWN);
        edges.refused("-1, at t", x -> x.who(0, 1, 2, 5, 1), UNKNOWN);
        edges.at(() -> Scene.courtWithRow("m;h10;h10", 0, 0, 0, 0, 2));
        edges.refused("ahead of what can't be", x -> x.who(0, 1, 2, 0, 5), UNKNOWN);
    }

    private static void refusalsInOrder() {
        edges.at(Scene::hall);
        edges.inOrder((x, a) -> x.who(a[0], a[1], a[2], a[3], a[4]), new int[] {0, 1, 2, 0, 4}, new int[][] {
            {UNKNOWN, 1, -1, 4, MIN, MAX}, {OUTSIDE, 2, -1, 3}, {OUTSIDE, 4, 0, -1, 21, MIN, MAX},
            {OUTSIDE, 0, -1, 20, MIN, MAX}, {NULL, 1, 3}, {CAST, 2, 0, 1}, {INDEX, 3, -1, 7, MIN, MAX},
            {INDEX, 4, 7, 20}, {STATE, Edges.OBJECT, 0}, {UNKNOWN, 3, 1}, {UNKNOWN, 4, 5}});
    }
}
