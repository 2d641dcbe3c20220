/** Promise 24, many: the edges. */
public final class Promise24ManyTest {
    private static final int OUTSIDE = Edges.OUTSIDE;
    private static final Edges edges = Edges.ofPlainCall("Promise24ManyTest");

    public static void main(String[] args) {
        theFirstAndTheLastQuestion();
        withoutACourt();
        twoToFiveHeads();
        noneToEightReadings();
        edges.end();
    }

    private static void theFirstAndTheLastQuestion() {
        edges.at(Scene::hall);
        edges.refused("what -1", x -> x.many(-1), OUTSIDE);
        edges.leaving("HEADS", x -> x.many(0), 3);
        edges.leaving("READINGS", x -> x.many(1), 2);
        edges.refused("what 2", x -> x.many(2), OUTSIDE);
        edges.refused("as little as can be", x -> x.many(Edges.MIN), OUTSIDE);
        edges.refused("as much as can be", x -> x.many(Edges.MAX), OUTSIDE);
    }

    private static void withoutACourt() {
        edges.at(Scene::withoutCourt);
        edges.refused("what -1", x -> x.many(-1), OUTSIDE);
        edges.leaving("HEADS", x -> x.many(0), 0);
        edges.leaving("READINGS", x -> x.many(1), 0);
        edges.refused("what 2", x -> x.many(2), OUTSIDE);
        edges.seen("HEADS behind a text that is not taken", x -> x.court(0, 0, 0, 5) == -105 ? x.many(0) : 99, 0);
        edges.seen("READINGS behind one that is refused", x -> x.reading(0, 0, 0) == Edges.UNKNOWN ? x.many(1) : 99, 0);
    }

    private static void twoToFiveHeads() {
        String five = "m;h10;h10;h10;h10;h10";
        for (int n = 2; n <= 5; n++) {
            String text = five.substring(0, 1 + 4 * n);
            edges.at(() -> Check.withCourt(text));
            edges.leaving("HEADS of " + n, x -> x.many(0), n);
            edges.leaving("READINGS of none", x -> x.many(1), 0);
            edges.seen("HEADS behind a text that is not taken", x -> x.court(0, 0, 0, 8) == -108 ? x.many(0) : 99, n);
        }
    }

    private static FaceGlass with(int readings) {
        FaceGlass x = Check.withCourt("m;h10;h10");
        for (int k = 0; k < readings; k++) {
            x.reading(0, 0, 0);
        }
        return x;
    }

    private static void noneToEightReadings() {
        for (int n = 0; n <= 9; n++) {
            int count = n;
            edges.at(() -> with(count));
            edges.leaving("READINGS of " + n, x -> x.many(1), Math.min(n, 8));
            edges.seen("none behind a COURT anew", x -> x.court(0, 0, 0, 9) == 2 ? x.many(1) : 99, 0);
        }
        edges.at(() -> with(8));
        edges.seen("one taken back", x -> x.back(1) == 7 ? x.many(1) : 99, 7);
        edges.seen("all taken back", x -> x.back(8) == 0 ? x.many(1) : 99, 0);
        edges.seen("too many taken back", x -> x.back(9) == OUTSIDE ? x.many(1) : 99, 8);
    }
}
