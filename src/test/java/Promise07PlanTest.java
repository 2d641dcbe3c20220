/** Promise 7, plan: the edges. */
public final class Promise07PlanTest {
    private static final int UNKNOWN = Edges.UNKNOWN, OUTSIDE = Edges.OUTSIDE, NONE = Edges.NONE;
    private static final int MIN = Edges.MIN, MAX = Edges.MAX;
    private static final Edges edges = Edges.ofPlainCall("Promise07PlanTest");

    public static void main(String[] args) {
        theFirstAndTheLastQuestion();
        itsOwnMask();
        theFirstAndTheLastHead();
        masksThatLastOnce();
        fromTheBeginningOn();
        refusalsInOrder();
        edges.end();
    }

    private static void theFirstAndTheLastQuestion() {
        edges.at(Scene::hall);
        edges.refused("k -2", x -> x.plan(2, 1, -2), OUTSIDE);
        edges.leaving("how many VISITS", x -> x.plan(2, 1, -1), 2);
        edges.leaving("the first", x -> x.plan(2, 1, 0), 1);
        edges.leaving("the last", x -> x.plan(2, 1, 1), 2);
        for (int k = 2; k <= 5; k++) {
            int visit = k;
            edges.leaving("there are fewer than " + k, x -> x.plan(2, 1, visit), NONE);
        }
        edges.refused("k 6", x -> x.plan(2, 1, 6), OUTSIDE);
    }

    private static void itsOwnMask() {
        edges.at(Scene::hall);
        for (int p = 0; p < 3; p++) {
            int head = p;
            edges.leaving("no VISITS", x -> x.plan(head, head, -1), 0);
            edges.leaving("no first one", x -> x.plan(head, head, 0), NONE);
            edges.leaving("no last one", x -> x.plan(head, head, 5), NONE);
            edges.refused("k -2", x -> x.plan(head, head, -2), OUTSIDE);
            edges.refused("k 6", x -> x.plan(head, head, 6), OUTSIDE);
        }
    }

    private static void theFirstAndTheLastHead() {
        edges.at(() -> Check.withCourt("m;h10;h10;h10;h10;h10"));
        edges.refused("HEAD -1", x -> x.plan(-1, 0, 0), UNKNOWN);
        edges.leaving("HEAD 0, MASK 4", x -> x.plan(0, 4, 0), 4);
        edges.leaving("HEAD 0, MASK 4", x -> x.plan(0, 4, 1), 0);
        edges.leaving("HEAD 4, MASK 0", x -> x.plan(4, 0, 0), 0);
        edges.leaving("HEAD 4, MASK 0", x -> x.plan(4, 0, 1), 4);
        edges.refused("HEAD 5", x -> x.plan(5, 0, 0), UNKNOWN);
        edges.refused("MASK -1", x -> x.plan(0, -1, 0), UNKNOWN);
        edges.refused("MASK 5", x -> x.plan(0, 5, 0), UNKNOWN);
        edges.refused("no MASK can't be planned", x -> x.plan(0, NONE, 0), UNKNOWN);
    }

    private static void masksThatLastOnce() {
        edges.at(() -> Check.withCourt("m;h10;h10"));
        edges.leaving("how many VISITS", x -> x.plan(0, 1, -1), 2);
        edges.leaving("the first", x -> x.plan(0, 1, 0), 1);
        edges.leaving("the second", x -> x.plan(0, 1, 1), 0);
        edges.at(() -> {
            FaceGlass x = Check.withCourt("m;h90;h90");
            x.wear(1, 1);
            return x;
        });
        edges.leaving("by the least WEAR as it is now", x -> x.plan(0, 1, -1), 2);
    }

    /** VISITS that were told and READINGS do not matter. */
    private static void fromTheBeginningOn() {
        edges.at(Scene::hall);
        edges.seen("behind visits that were told",
            x -> x.visits(1, 2, 0, 4, 3) == 1 ? x.plan(0, 2, -1) : 99, 2);
        edges.seen("its own, behind visits that were told",
            x -> x.visits(1, 2, 0, 4, 3) == 1 ? x.plan(1, 1, -1) : 99, 0);
    }

    private static void refusalsInOrder() {
        edges.at(Scene::hall);
        edges.inOrder((x, a) -> x.plan(a[0], a[1], a[2]), new int[] {2, 1, 0}, new int[][] {
            {UNKNOWN, 0, -1, 3, 5, NONE, MIN, MAX}, {UNKNOWN, 1, -1, 3, 5, NONE, MIN, MAX},
            {UNKNOWN, Edges.OBJECT, 0}, {OUTSIDE, 2, -2, 6, NONE, MIN, MAX}});
    }
}
