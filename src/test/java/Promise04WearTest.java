/** Promise 4, wear: the edges. */
public final class Promise04WearTest {
    private static final int UNKNOWN = Edges.UNKNOWN, OUTSIDE = Edges.OUTSIDE, MIN = Edges.MIN, MAX = Edges.MAX;
    private static final Edges edges = Edges.ofPlainCall("Promise04WearTest");

    public static void main(String[] args) {
        oneToNine();
        theFirstAndTheLastHead();
        whatItWas();
        itsMaskAlone();
        refusalsInOrder();
        edges.end();
    }

    private static void oneToNine() {
        edges.at(Scene::hall);
        edges.refused("0", x -> x.wear(2, 0), OUTSIDE);
        edges.refused("10", x -> x.wear(2, 10), OUTSIDE);
        for (int v = 1; v <= 9; v++) {
            int wear = v;
            edges.taken("" + v, x -> x.wear(2, wear), 3);
            edges.seen("it is " + v, x -> x.wear(2, wear) == 3 ? x.ofHead(2, 1) : 99, v);
            edges.seen("it lasts by " + v, x -> x.wear(2, wear) == 3 ? x.ofHead(2, 3) : 99, 2 * (v + 1));
        }
    }

    private static void theFirstAndTheLastHead() {
        edges.at(() -> Check.withCourt("m;h10;l20;s30;h40;l50"));
        edges.refused("HEAD -1", x -> x.wear(-1, 9), UNKNOWN);
        edges.taken("HEAD 0", x -> x.wear(0, 9), 1);
        edges.taken("HEAD 4", x -> x.wear(4, 9), 5);
        edges.refused("HEAD 5", x -> x.wear(5, 9), UNKNOWN);
    }

    private static void whatItWas() {
        edges.at(Scene::hall);
        edges.leaving("what it was already", x -> x.wear(2, 3), 3);
        edges.seen("one behind another", x -> x.wear(2, 9) == 3 ? x.wear(2, 1) : 99, 9);
        edges.seen("a refused one is not what it was",
            x -> x.wear(2, 9) == 3 && x.wear(2, 10) == OUTSIDE ? x.wear(2, 1) : 99, 9);
    }

    private static void itsMaskAlone() {
        edges.at(Scene::hall);
        edges.seen("the one ahead", x -> x.wear(1, 9) == 2 ? x.ofHead(0, 1) : 99, 1);
        edges.seen("the one behind", x -> x.wear(1, 9) == 2 ? x.ofHead(2, 1) : 99, 3);
        edges.seen("its kind", x -> x.wear(1, 9) == 2 ? x.ofHead(1, 0) : 99, 1);
        edges.seen("whom it KNOWS", x -> x.wear(1, 9) == 2 ? x.ofHead(1, 2) : 99, 4);
        edges.seen("READINGS", x -> x.wear(1, 9) == 2 ? x.many(1) : 99, 2);
    }

    private static void refusalsInOrder() {
        edges.at(Scene::hall);
        edges.inOrder((x, a) -> x.wear(a[0], a[1]), new int[] {2, 9}, new int[][] {
            {UNKNOWN, 0, -1, 3, 4, 5, Edges.NONE, MIN, MAX}, {UNKNOWN, Edges.OBJECT, 0},
            {OUTSIDE, 1, 0, 10, -1, MIN, MAX}});
    }
}
