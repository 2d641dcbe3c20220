/** Promise 20, greet: the edges. */
public final class Promise20GreetTest {
    private static final int UNKNOWN = Edges.UNKNOWN, NONE = Edges.NONE, MIN = Edges.MIN, MAX = Edges.MAX;
    private static final Edges edges = Edges.ofPlainCall("Promise20GreetTest");

    public static void main(String[] args) {
        theFirstAndTheLastHead();
        spiesHaveTheirOwn();
        whatIsLeftInTrace();
        refusedLeavesNoTrace();
        edges.end();
    }

    /** The first one's number is 0, which is no refusal. */
    private static void theFirstAndTheLastHead() {
        edges.at(() -> Check.withCourt("m;h10;l20;h30;l40;h50"));
        edges.refused("HEAD -1", x -> x.greet(-1), UNKNOWN);
        for (int p = 0; p < 5; p++) {
            int head = p;
            edges.taken("HEAD " + p, x -> x.greet(head), p);
        }
        edges.refused("HEAD 5", x -> x.greet(5), UNKNOWN);
        edges.at(() -> Check.withCourt("m;h10;h20"));
        edges.taken("HEAD 1 of two", x -> x.greet(1), 1);
        edges.refused("HEAD 2 of two", x -> x.greet(2), UNKNOWN);
    }

    private static void spiesHaveTheirOwn() {
        edges.at(() -> Check.withCourt("m;s10;s20;s30;s40;s50"));
        edges.taken("SPY 0", x -> x.greet(0), 90);
        edges.taken("SPY 4", x -> x.greet(4), 90);
        edges.refused("SPY 5", x -> x.greet(5), UNKNOWN);
    }

    private static long traceBehind(FaceGlass x, int p) {
        x.greet(p);
        return x.trace();
    }

    private static void whatIsLeftInTrace() {
        edges.at(() -> Check.withCourt("m;h10;l10;s10"));
        edges.seen("a HEAD's", x -> traceBehind(x, 0), 4);
        edges.seen("a LORD's", x -> traceBehind(x, 1), 4);
        edges.seen("a SPY's", x -> traceBehind(x, 2), 5);
        edges.seen("behind another", x -> x.greet(0) == 0 ? traceBehind(x, 2) : 99, 4 * 31 + 5);
    }

    private static void refusedLeavesNoTrace() {
        edges.at(Scene::hall);
        for (int p : new int[] {-1, 3, 5, NONE, MIN, MAX}) {
            edges.refused("HEAD " + p, x -> x.greet(p), UNKNOWN);
        }
        edges.at(Scene::withoutCourt);
        edges.refused("without a COURT", x -> x.greet(0), UNKNOWN);
    }
}
