/** Promise 3, ofHead: the edges. */
public final class Promise03OfHeadTest {
    private static final int UNKNOWN = Edges.UNKNOWN, OUTSIDE = Edges.OUTSIDE, MIN = Edges.MIN, MAX = Edges.MAX;
    private static final Edges edges = Edges.ofPlainCall("Promise03OfHeadTest");

    public static void main(String[] args) {
        theFirstAndTheLastQuestion();
        theFirstAndTheLastHead();
        lastsByTheLeastAndTheMostWear();
        knowsANumberThatNoHeadHas();
        asItIsNow();
        refusalsInOrder();
        edges.end();
    }

    private static void theFirstAndTheLastQuestion() {
        edges.at(Scene::hall);
        edges.refused("what -1", x -> x.ofHead(2, -1), OUTSIDE);
        edges.leaving("what 0", x -> x.ofHead(2, 0), 2);
        edges.leaving("what 1", x -> x.ofHead(2, 1), 3);
        edges.leaving("what 2", x -> x.ofHead(2, 2), 5);
        edges.leaving("what 3", x -> x.ofHead(2, 3), 8);
        edges.refused("what 4", x -> x.ofHead(2, 4), OUTSIDE);
    }

    private static void theFirstAndTheLastHead() {
        String five = "m;h10;l20;s30;h40;l50";
        for (int n = 2; n <= 5; n++) {
            int heads = n;
            edges.at(() -> Check.withCourt(five.substring(0, 1 + 4 * heads)));
            edges.refused("HEAD -1 of " + n, x -> x.ofHead(-1, 1), UNKNOWN);
            edges.leaving("HEAD 0 of " + n, x -> x.ofHead(0, 1), 1);
            edges.leaving("the last HEAD of " + n, x -> x.ofHead(heads - 1, 1), heads);
            edges.refused("one more than " + n, x -> x.ofHead(heads, 1), UNKNOWN);
        }
    }

    private static void lastsByTheLeastAndTheMostWear() {
        edges.at(() -> Check.withCourt("m;h10;l10;s10"));
        edges.leaving("a HEAD's, WEAR 1", x -> x.ofHead(0, 3), 1);
        edges.leaving("a LORD's, WEAR 1", x -> x.ofHead(1, 3), 2);
        edges.leaving("a SPY's, WEAR 1", x -> x.ofHead(2, 3), 4);
        edges.at(() -> Check.withCourt("m;h90;l90;s90"));
        edges.leaving("a HEAD's, WEAR 9", x -> x.ofHead(0, 3), 9);
        edges.leaving("a LORD's, WEAR 9", x -> x.ofHead(1, 3), 10);
        edges.leaving("a SPY's, WEAR 9", x -> x.ofHead(2, 3), 20);
    }

    private static void knowsANumberThatNoHeadHas() {
        edges.at(() -> Check.withCourt("m;h10;h11;h12;h13;h15"));
        edges.leaving("0", x -> x.ofHead(0, 2), 0);
        edges.leaving("its own", x -> x.ofHead(1, 2), 1);
        edges.leaving("one that no HEAD has", x -> x.ofHead(4, 2), 5);
    }

    private static void asItIsNow() {
        edges.at(() -> {
            FaceGlass x = Scene.hall();
            x.wear(2, 9);
            x.knows(2, 0);
            return x;
        });
        edges.leaving("WEAR", x -> x.ofHead(2, 1), 9);
        edges.leaving("KNOWS", x -> x.ofHead(2, 2), 0);
        edges.leaving("LASTS", x -> x.ofHead(2, 3), 20);
    }

    private static void refusalsInOrder() {
        edges.at(Scene::hall);
        edges.inOrder((x, a) -> x.ofHead(a[0], a[1]), new int[] {2, 3}, new int[][] {
            {UNKNOWN, 0, -1, 3, 4, 5, Edges.NONE, MIN, MAX}, {UNKNOWN, Edges.OBJECT, 0},
            {OUTSIDE, 1, -1, 4, 10, MIN, MAX}});
    }
}
