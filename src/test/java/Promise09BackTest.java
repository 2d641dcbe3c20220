/** Promise 9, back: the edges. */
public final class Promise09BackTest {
    private static final int OUTSIDE = Edges.OUTSIDE, NONE = Edges.NONE, MIN = Edges.MIN, MAX = Edges.MAX;
    private static final Edges edges = Edges.ofPlainCall("Promise09BackTest");

    public static void main(String[] args) {
        noneToAll();
        noneWithoutACourt();
        theLastOnes();
        noneMoreThanOnce();
        edges.end();
    }

    private static FaceGlass with(int readings) {
        FaceGlass x = Check.withCourt("m;h10;h10");
        for (int k = 0; k < readings; k++) {
            x.reading(k, 0, 0);
        }
        return x;
    }

    private static void noneToAll() {
        for (int n = 0; n <= 8; n++) {
            int count = n;
            edges.at(() -> with(count));
            edges.refused("-1 of " + n, x -> x.back(-1), OUTSIDE);
            edges.leaving("0 of " + n, x -> x.back(0), n);
            edges.taken("all of " + n, x -> x.back(count), 0);
            edges.seen("all of " + n + " are gone", x -> x.back(count) == 0 ? x.many(1) : 99, 0);
            edges.refused("one more than " + n, x -> x.back(count + 1), OUTSIDE);
            edges.refused("as few as can be", x -> x.back(MIN), OUTSIDE);
            edges.refused("as many as can be", x -> x.back(MAX), OUTSIDE);
        }
        edges.at(() -> with(8));
        edges.taken("1 of 8", x -> x.back(1), 7);
        edges.taken("7 of 8", x -> x.back(7), 1);
    }

    private static void noneWithoutACourt() {
        edges.at(Scene::withoutCourt);
        edges.refused("-1", x -> x.back(-1), OUTSIDE);
        edges.leaving("0", x -> x.back(0), 0);
        edges.refused("1", x -> x.back(1), OUTSIDE);
    }

    /** The first is so only if HEAD 0 came first; the second can't be. */
    private static FaceGlass soAndNotSo() {
        FaceGlass x = Scene.courtWithRow("m;h10;h10", 0);
        x.reading(1, 0, NONE);
        x.reading(0, 0, 1);
        return x;
    }

    private static void theLastOnes() {
        edges.at(Promise09BackTest::soAndNotSo);
        edges.seen("by both", x -> x.who(0, 1, 2, 0, 1), 0);
        edges.seen("by both, none taken back", x -> x.back(0) == 2 ? x.who(0, 1, 2, 0, 1) : 99, 0);
        edges.seen("by both, too many refused", x -> x.back(3) == OUTSIDE ? x.who(0, 1, 2, 0, 1) : 99, 0);
        edges.seen("by the first", x -> x.back(1) == 1 ? x.who(0, 1, 2, 0, 1) : 99, 1);
        edges.seen("by none", x -> x.back(2) == 0 ? x.who(0, 1, 2, 0, 1) : 99, 3);
        edges.seen("by the first and a new one",
            x -> x.back(1) == 1 && x.reading(0, 1, 1) == 1 ? x.who(0, 1, 2, 0, 1) : 99, 1);
    }

    private static void noneMoreThanOnce() {
        edges.at(() -> with(2));
        edges.seen("2 and then 1", x -> x.back(2) == 0 ? x.back(1) : 99, OUTSIDE);
        edges.seen("2 and then 0", x -> x.back(2) == 0 ? x.back(0) : 99, 0);
    }
}
