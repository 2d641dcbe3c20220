/** Promise 21, as: the edges. */
public final class Promise21AsTest {
    private static final int UNKNOWN = Edges.UNKNOWN, OUTSIDE = Edges.OUTSIDE, CAST = Edges.CAST, NONE = Edges.NONE;
    private static final int MIN = Edges.MIN, MAX = Edges.MAX;
    private static final Edges edges = Edges.ofFaultyCall("Promise21AsTest");

    public static void main(String[] args) {
        eachIsAHead();
        aSpyIsALord();
        theFirstAndTheLastKind();
        theFirstAndTheLastHead();
        refusalsInOrder();
        edges.end();
    }

    private static void eachIsAHead() {
        edges.at(Scene::hall);
        edges.leaving("a HEAD as a HEAD", x -> x.as(0, 0), 1);
        edges.leaving("a LORD as a HEAD", x -> x.as(1, 0), 1);
        edges.leaving("a SPY as a HEAD", x -> x.as(2, 0), 1);
        edges.refused("a HEAD as a LORD", x -> x.as(0, 1), CAST);
        edges.refused("a HEAD as a SPY", x -> x.as(0, 2), CAST);
    }

    private static void aSpyIsALord() {
        edges.at(Scene::hall);
        edges.leaving("a LORD as a LORD", x -> x.as(1, 1), 1);
        edges.leaving("a SPY as a LORD", x -> x.as(2, 1), 1);
        edges.leaving("a SPY as a SPY", x -> x.as(2, 2), 1);
        edges.refused("a LORD as a SPY", x -> x.as(1, 2), CAST);
    }

    private static void theFirstAndTheLastKind() {
        edges.at(Scene::hall);
        for (int p = 0; p < 3; p++) {
            int head = p;
            edges.refused("kind -1", x -> x.as(head, -1), OUTSIDE);
            edges.refused("kind 3", x -> x.as(head, 3), OUTSIDE);
        }
    }

    private static void theFirstAndTheLastHead() {
        edges.at(() -> Check.withCourt("m;s10;h10;h10;h10;s10"));
        edges.refused("HEAD -1", x -> x.as(-1, 0), UNKNOWN);
        edges.leaving("HEAD 0", x -> x.as(0, 2), 1);
        edges.leaving("HEAD 4", x -> x.as(4, 2), 1);
        edges.refused("HEAD 5", x -> x.as(5, 0), UNKNOWN);
    }

    private static void refusalsInOrder() {
        edges.at(Scene::hall);
        edges.inOrder((x, a) -> x.as(a[0], a[1]), new int[] {2, 2}, new int[][] {
            {UNKNOWN, 0, -1, 3, 5, NONE, MIN, MAX}, {UNKNOWN, Edges.OBJECT, 0}, {OUTSIDE, 1, -1, 3, MIN, MAX},
            {CAST, 0, 0, 1}});
    }
}
