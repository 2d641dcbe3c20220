/** Promise 13, odds: the edges. */
public final class Promise13OddsTest {
    private static final int UNKNOWN = Edges.UNKNOWN, OUTSIDE = Edges.OUTSIDE, NONE = Edges.NONE;
    private static final int MIN = Edges.MIN, MAX = Edges.MAX;
    private static final Edges edges = Edges.ofPlainLongCall("Promise13OddsTest");

    public static void main(String[] args) {
        noneToFiveVisits();
        theUpperAndTheLowerNumber();
        theFirstAndTheLastHead();
        noRowAtAll();
        inLeastTerms();
        rowsThatCanBe();
        readingsDoNotMatter();
        refusalsInOrder();
        edges.end();
    }

    private static void share(String sentence, int p, int face, int n, long upper, long lower) {
        edges.leaving(sentence + ", upper", x -> x.odds(p, face, n, 0), upper);
        edges.leaving(sentence + ", lower", x -> x.odds(p, face, n, 1), lower);
    }

    /** Two MASKS that last: behind each VISIT one of three places is empty. */
    private static void noneToFiveVisits() {
        edges.at(() -> Check.withCourt("m;s90;s90"));
        edges.refused("n -1", x -> x.odds(0, 0, -1, 0), OUTSIDE);
        share("n 0", 0, 0, 0, 1, 1);
        share("n 1", 0, 0, 1, 1, 2);
        share("n 2", 0, 0, 2, 1, 2);
        share("n 3", 0, 0, 3, 3, 8);
        share("n 4", 0, 0, 4, 3, 8);
        share("n 5", 0, 0, 5, 11, 32);
        edges.refused("n 6", x -> x.odds(0, 0, 6, 0), OUTSIDE);
    }

    private static void theUpperAndTheLowerNumber() {
        edges.at(() -> Check.withCourt("m;h10;h10"));
        edges.refused("which -1", x -> x.odds(0, 1, 2, -1), OUTSIDE);
        edges.leaving("which 0", x -> x.odds(0, 1, 2, 0), 1);
        edges.leaving("which 1", x -> x.odds(0, 1, 2, 1), 4);
        edges.refused("which 2", x -> x.odds(0, 1, 2, 2), OUTSIDE);
    }

    private static void theFirstAndTheLastHead() {
        edges.at(() -> Check.withCourt("m;h10;h10;h10;h10;h10"));
        edges.refused("HEAD -1", x -> x.odds(-1, 0, 2, 0), UNKNOWN);
        share("HEAD 0, MASK 4", 0, 4, 2, 1, 25);
        share("HEAD 4, MASK 0", 4, 0, 2, 1, 25);
        edges.refused("HEAD 5", x -> x.odds(5, 0, 2, 0), UNKNOWN);
        edges.refused("MASK -1", x -> x.odds(0, -1, 2, 0), UNKNOWN);
        edges.refused("MASK 5", x -> x.odds(0, 5, 2, 0), UNKNOWN);
        edges.refused("no MASK has no odds", x -> x.odds(0, NONE, 1, 0), UNKNOWN);
    }

    /** The lower number is above 0, too. */
    private static void noRowAtAll() {
        edges.at(() -> Check.withCourt("m;h10;h10;h10;h10;h10"));
        share("another's behind no VISIT", 0, 1, 0, 0, 1);
        share("another's behind one", 0, 1, 1, 0, 1);
    }

    private static void inLeastTerms() {
        edges.at(() -> Check.withCourt("m;s90;s90;s90;s90"));
        share("3 of 4", 0, 0, 1, 3, 4);
        share("10 of 16", 0, 0, 2, 5, 8);
        share("1 of 16", 0, 1, 2, 1, 16);
        share("6 of 64", 0, 1, 3, 3, 32);
        edges.at(() -> Check.withCourt("m;s90;s90;s90"));
        share("2 of 3", 0, 0, 1, 2, 3);
        share("5 of 9", 0, 0, 2, 5, 9);
        edges.at(() -> Check.withCourt("m;s90;s90;s90;s90;s90"));
        share("316 of 3125", 0, 1, 5, 316, 3125);
        edges.at(() -> Check.withCourt("m;h10;h10;h10;h10;h10"));
        share("560 of 3125", 0, 0, 5, 112, 625);
    }

    /** By 0000, 0011, 1100 and more if they last; as they do it but once, 0000 can't be, nor 0110. */
    private static void rowsThatCanBe() {
        edges.at(() -> Check.withCourt("m;h10;h10"));
        share("MASKS that last once", 0, 0, 4, 1, 8);
        edges.at(() -> {
            FaceGlass x = Check.withCourt("m;h10;h10");
            x.wear(0, 2);
            x.wear(1, 2);
            return x;
        });
        share("MASKS that last twice, by the WEAR as it is now", 0, 0, 4, 3, 8);
    }

    private static void readingsDoNotMatter() {
        edges.at(() -> {
            FaceGlass x = Check.withCourt("m;h10;h10");
            x.reading(0, 0, 1);
            return x;
        });
        share("what can't be", 0, 1, 2, 1, 4);
    }

    private static void refusalsInOrder() {
        edges.at(Scene::hall);
        edges.inOrder((x, a) -> x.odds(a[0], a[1], a[2], a[3]), new int[] {2, 1, 5, 1}, new int[][] {
            {UNKNOWN, 0, -1, 3, 5, NONE, MIN, MAX}, {UNKNOWN, 1, -1, 3, NONE, MIN, MAX},
            {UNKNOWN, Edges.OBJECT, 0}, {OUTSIDE, 2, -1, 6, MIN, MAX}, {OUTSIDE, 3, -1, 2, MIN, MAX}});
    }
}
