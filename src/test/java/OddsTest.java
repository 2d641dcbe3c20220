/** Promise 13: odds, by all rows. */
public final class OddsTest {
    private static final Check check = new Check("OddsTest");

    public static void main(String[] args) {
        byAllRows();
        told();
        refusals();
        check.end();
    }

    private static void byAllRows() {
        for (String text : new String[] {"m;h10;h10", "m;h10;l25;s13", "m;s94;h10;h20;l10", "m;h10;h10;h10;l10;h10"}) {
            Oracle oracle = Oracle.withCourt(text);
            int heads = (int) oracle.call("many", 0);
            FaceGlass x = Check.withCourt(text);
            for (int n = 0; n <= 5; n++) {
                for (int pair = 0; pair < heads * heads; pair++) {
                    for (int which = 0; which < 2; which++) {
                        String call = text + " odds(" + pair / heads + ", " + pair % heads + ", " + n + ", " + which + ")";
                        long due = oracle.call("odds", pair / heads, pair % heads, n, which);
                        check.due(call, x.odds(pair / heads, pair % heads, n, which), due);
                    }
                }
            }
        }
    }

    private static void share(FaceGlass x, int p, int face, int n, int upper, int lower) {
        check.due("upper", x.odds(p, face, n, 0), upper);
        check.due("lower", x.odds(p, face, n, 1), lower);
    }

    private static void told() {
        FaceGlass x = Check.withCourt("m;h10;h10");
        share(x, 0, 0, 0, 1, 1);
        share(x, 0, 1, 0, 0, 1);
        share(x, 0, 0, 1, 1, 2);
        share(x, 0, 1, 1, 0, 1);
        share(x, 0, 1, 2, 1, 4);
        share(x, 0, 0, 2, 1, 2);
        // 001, 100 and 111; of four visits 0011 and 1100 alone, as 1001 and 1111 can't be.
        share(x, 0, 0, 3, 3, 8);
        share(x, 0, 0, 4, 1, 8);
        x.reading(0, 0, 1);
        share(x, 0, 0, 1, 1, 2);
    }

    private static void refusals() {
        FaceGlass x = Check.withCourt("m;h10;h10");
        x.cell(0, 99, 0);
        int[][] calls = {{2, 0, 0, 0}, {-1, 0, 0, 0}, {0, 2, 0, 0}, {0, -1, 0, 0}, {0, FaceGlass.NONE, 1, 0},
            {0, 0, -1, 0}, {0, 0, 6, 0}, {0, 0, 0, -1}, {0, 0, 0, 2}};
        for (int[] a : calls) {
            check.due("odds refused", x.odds(a[0], a[1], a[2], a[3]), FaceGlass.LOST);
        }
        check.due("odds names no fault", x.fault(), 3);
        check.due("odds without a court", new FaceGlass().odds(0, 0, 0, 0), FaceGlass.LOST);
    }
}
