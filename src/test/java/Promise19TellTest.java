/** Promise 19, tell: the edges. */
public final class Promise19TellTest {
    private static final int UNKNOWN = Edges.UNKNOWN, NONE = Edges.NONE, MIN = Edges.MIN, MAX = Edges.MAX;
    private static final Edges edges = Edges.ofPlainCall("Promise19TellTest");

    public static void main(String[] args) {
        theFirstAndTheLastHead();
        theLeastAndTheMostWear();
        byTheWearAsItIsNow();
        whatIsLeftInTrace();
        refusedLeavesNoTrace();
        edges.end();
    }

    private static void theFirstAndTheLastHead() {
        edges.at(() -> Check.withCourt("m;h10;h20;h30;h40;h50"));
        edges.refused("HEAD -1", x -> x.tell(-1), UNKNOWN);
        edges.taken("HEAD 0", x -> x.tell(0), 1);
        edges.taken("HEAD 4", x -> x.tell(4), 5);
        edges.refused("HEAD 5", x -> x.tell(5), UNKNOWN);
        edges.at(() -> Check.withCourt("m;h10;h20"));
        edges.taken("HEAD 1 of two", x -> x.tell(1), 2);
        edges.refused("HEAD 2 of two", x -> x.tell(2), UNKNOWN);
    }

    private static void theLeastAndTheMostWear() {
        edges.at(() -> Check.withCourt("m;h10;l10;s10"));
        edges.taken("a HEAD's, WEAR 1", x -> x.tell(0), 1);
        edges.taken("a LORD's, WEAR 1", x -> x.tell(1), 101);
        edges.taken("a SPY's, WEAR 1", x -> x.tell(2), 102);
        edges.at(() -> Check.withCourt("m;h90;l90;s90"));
        edges.taken("a HEAD's, WEAR 9", x -> x.tell(0), 9);
        edges.taken("a LORD's, WEAR 9", x -> x.tell(1), 109);
        edges.taken("a SPY's, WEAR 9", x -> x.tell(2), 118);
    }

    private static void byTheWearAsItIsNow() {
        edges.at(() -> {
            FaceGlass x = Check.withCourt("m;h10;l10;s10");
            for (int p = 0; p < 3; p++) {
                x.wear(p, 9);
            }
            return x;
        });
        edges.taken("a HEAD's", x -> x.tell(0), 9);
        edges.taken("a LORD's", x -> x.tell(1), 109);
        edges.taken("a SPY's", x -> x.tell(2), 118);
    }

    private static long traceBehind(FaceGlass x, int p) {
        x.tell(p);
        return x.trace();
    }

    /** As bodies begin: a SPY's, a LORD's, a HEAD's, and a HEAD's once more. */
    private static void whatIsLeftInTrace() {
        edges.at(() -> Check.withCourt("m;h10;l10;s10"));
        edges.seen("a HEAD's", x -> traceBehind(x, 0), 1);
        edges.seen("a LORD's", x -> traceBehind(x, 1), 2 * 31 + 1);
        edges.seen("a SPY's", x -> traceBehind(x, 2), ((3 * 31 + 2) * 31 + 1) * 31 + 1);
        edges.seen("behind another", x -> x.tell(0) == 1 ? traceBehind(x, 1) : 99, (31 + 2) * 31 + 1);
    }

    private static void refusedLeavesNoTrace() {
        edges.at(Scene::hall);
        for (int p : new int[] {-1, 3, 5, NONE, MIN, MAX}) {
            edges.refused("HEAD " + p, x -> x.tell(p), UNKNOWN);
        }
        edges.at(Scene::withoutCourt);
        edges.refused("without a COURT", x -> x.tell(0), UNKNOWN);
    }
}
