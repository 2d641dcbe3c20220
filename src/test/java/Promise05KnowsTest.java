/** Promise 5, knows: the edges. */
public final class Promise05KnowsTest {
    private static final int UNKNOWN = Edges.UNKNOWN, OUTSIDE = Edges.OUTSIDE, MIN = Edges.MIN, MAX = Edges.MAX;
    private static final Edges edges = Edges.ofPlainCall("Promise05KnowsTest");

    public static void main(String[] args) {
        zeroToFive();
        theFirstAndTheLastHead();
        whomItKnew();
        ofItAlone();
        refusalsInOrder();
        edges.end();
    }

    /** 3 to 5 are numbers that no HEAD of three has. */
    private static void zeroToFive() {
        edges.at(Scene::hall);
        edges.refused("-1", x -> x.knows(1, -1), OUTSIDE);
        edges.refused("6", x -> x.knows(1, 6), OUTSIDE);
        for (int v = 0; v <= 5; v++) {
            int known = v;
            edges.taken("" + v, x -> x.knows(1, known), 4);
            edges.seen("it is " + v, x -> x.knows(1, known) == 4 ? x.ofHead(1, 2) : 99, v);
        }
    }

    private static void theFirstAndTheLastHead() {
        edges.at(() -> Check.withCourt("m;h10;l21;s32;h43;l55"));
        edges.refused("HEAD -1", x -> x.knows(-1, 4), UNKNOWN);
        edges.taken("HEAD 0", x -> x.knows(0, 4), 0);
        edges.taken("HEAD 4", x -> x.knows(4, 4), 5);
        edges.refused("HEAD 5", x -> x.knows(5, 4), UNKNOWN);
    }

    private static void whomItKnew() {
        edges.at(Scene::hall);
        edges.leaving("whom it KNEW already", x -> x.knows(1, 4), 4);
        edges.seen("one behind another", x -> x.knows(1, 0) == 4 ? x.knows(1, 5) : 99, 0);
        edges.seen("a refused one is not whom it KNEW",
            x -> x.knows(1, 5) == 4 && x.knows(1, 6) == OUTSIDE ? x.knows(1, 0) : 99, 5);
    }

    private static void ofItAlone() {
        edges.at(Scene::hall);
        edges.seen("the one ahead", x -> x.knows(1, 2) == 4 ? x.ofHead(0, 2) : 99, 0);
        edges.seen("the one behind", x -> x.knows(1, 2) == 4 ? x.ofHead(2, 2) : 99, 5);
        edges.seen("its kind", x -> x.knows(1, 2) == 4 ? x.ofHead(1, 0) : 99, 1);
        edges.seen("its WEAR", x -> x.knows(1, 0) == 4 ? x.ofHead(1, 1) : 99, 2);
        edges.seen("READINGS", x -> x.knows(1, 2) == 4 ? x.many(1) : 99, 2);
    }

    private static void refusalsInOrder() {
        edges.at(Scene::hall);
        edges.inOrder((x, a) -> x.knows(a[0], a[1]), new int[] {1, 0}, new int[][] {
            {UNKNOWN, 0, -1, 3, 4, 5, Edges.NONE, MIN, MAX}, {UNKNOWN, Edges.OBJECT, 0},
            {OUTSIDE, 1, -1, 6, Edges.NONE, MIN, MAX}});
    }
}
