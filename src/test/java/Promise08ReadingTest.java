/** Promise 8, reading: the edges. */
public final class Promise08ReadingTest {
    private static final int UNKNOWN = Edges.UNKNOWN, OUTSIDE = Edges.OUTSIDE, FULL = Edges.FULL, NONE = Edges.NONE;
    private static final int MIN = Edges.MIN, MAX = Edges.MAX;
    private static final Edges edges = Edges.ofPlainCall("Promise08ReadingTest");

    public static void main(String[] args) {
        behindNoneToTwentyVisits();
        theFirstAndTheLastHead();
        theFirstAndTheLastMask();
        smooth();
        eightAtMost();
        fullNoMore();
        numbersByHowManyThereAre();
        whatIsNotSoIsTaken();
        refusalsInOrder();
        edges.end();
    }

    /** A COURT of five with so many READINGS, all so at the beginning. */
    private static FaceGlass with(int readings) {
        FaceGlass x = Check.withCourt("m;h10;h10;h10;h10;h10");
        for (int k = 0; k < readings; k++) {
            x.reading(0, k % 5, k % 5);
        }
        return x;
    }

    private static void behindNoneToTwentyVisits() {
        edges.at(Scene::hall);
        edges.refused("t -1", x -> x.reading(-1, 0, 0), OUTSIDE);
        edges.taken("t 0", x -> x.reading(0, 0, 0), 2);
        edges.taken("t 20", x -> x.reading(20, 0, 0), 2);
        edges.refused("t 21", x -> x.reading(21, 0, 0), OUTSIDE);
    }

    private static void theFirstAndTheLastHead() {
        edges.at(() -> with(0));
        edges.refused("HEAD -1", x -> x.reading(0, -1, 0), UNKNOWN);
        edges.taken("HEAD 0", x -> x.reading(0, 0, 0), 0);
        edges.taken("HEAD 4", x -> x.reading(0, 4, 0), 0);
        edges.refused("HEAD 5", x -> x.reading(0, 5, 0), UNKNOWN);
        edges.refused("no HEAD", x -> x.reading(0, NONE, 0), UNKNOWN);
    }

    private static void theFirstAndTheLastMask() {
        edges.at(() -> with(0));
        edges.refused("MASK -1", x -> x.reading(0, 0, -1), UNKNOWN);
        edges.taken("MASK 0", x -> x.reading(0, 0, 0), 0);
        edges.taken("MASK 4", x -> x.reading(0, 0, 4), 0);
        edges.refused("MASK 5", x -> x.reading(0, 0, 5), UNKNOWN);
    }

    private static void smooth() {
        edges.at(() -> with(0));
        edges.refused("next to NONE", x -> x.reading(0, 0, NONE - 1), UNKNOWN);
        edges.taken("NONE", x -> x.reading(0, 0, NONE), 0);
        edges.refused("next to NONE", x -> x.reading(0, 0, NONE + 1), UNKNOWN);
        edges.refused("no HEAD was SMOOTH", x -> x.reading(0, NONE, NONE), UNKNOWN);
    }

    private static void eightAtMost() {
        for (int n = 0; n < 8; n++) {
            int count = n;
            edges.at(() -> with(count));
            edges.taken("behind " + n, x -> x.reading(1, 0, NONE), n);
            edges.seen("there are more", x -> x.reading(1, 0, NONE) == count ? x.many(1) : 99, n + 1);
        }
        edges.at(() -> with(8));
        edges.refused("behind 8", x -> x.reading(1, 0, NONE), FULL);
        edges.refused("behind 8, the same once more", x -> x.reading(0, 0, 0), FULL);
    }

    private static void fullNoMore() {
        edges.at(() -> {
            FaceGlass x = with(8);
            x.back(1);
            return x;
        });
        edges.taken("one taken back", x -> x.reading(0, 0, 0), 7);
        edges.seen("full again", x -> x.reading(0, 0, 0) == 7 ? x.reading(0, 0, 0) : 99, FULL);
        edges.at(() -> {
            FaceGlass x = with(8);
            x.court(0, 0, 0, 21);
            return x;
        });
        edges.taken("a COURT anew", x -> x.reading(0, 0, 0), 0);
    }

    private static void numbersByHowManyThereAre() {
        edges.at(() -> {
            FaceGlass x = with(5);
            x.back(3);
            return x;
        });
        edges.taken("behind some that were taken back", x -> x.reading(0, 0, 0), 2);
        edges.taken("a refused one has no number", x -> x.reading(21, 0, 0) == OUTSIDE ? x.reading(0, 0, 0) : 99, 2);
    }

    private static void whatIsNotSoIsTaken() {
        edges.at(() -> with(1));
        edges.taken("what can't be", x -> x.reading(0, 0, 1), 1);
        edges.taken("two that can't both be", x -> x.reading(0, 0, NONE), 1);
    }

    private static void refusalsInOrder() {
        edges.at(Scene::hall);
        edges.elsewhere(Scene::withoutCourt);
        edges.inOrder((x, a) -> x.reading(a[0], a[1], a[2]), new int[] {20, 2, NONE}, new int[][] {
            {UNKNOWN, 1, -1, 3, 5, NONE, MIN, MAX}, {UNKNOWN, 2, -1, 3, 5, MIN, MAX}, {UNKNOWN, Edges.OBJECT, 0},
            {OUTSIDE, 0, -1, 21, NONE, MIN, MAX}});
        edges.elsewhere(() -> with(8));
        edges.inOrder((x, a) -> x.reading(a[0], a[1], a[2]), new int[] {20, 2, NONE}, new int[][] {
            {UNKNOWN, 1, -1, 5, NONE, MIN, MAX}, {UNKNOWN, 2, -1, 5, MIN, MAX},
            {OUTSIDE, 0, -1, 21, NONE, MIN, MAX}, {FULL, Edges.OBJECT, 0}});
    }
}
