/** Promises 8 to 12: reading, back, who, kinds, wears. */
public final class ReadingsTest {
    private static final int NULL = -11, CAST = -12, INDEX = -13, NONE = FaceGlass.NONE;
    private static final Check check = new Check("ReadingsTest");

    public static void main(String[] args) {
        readings();
        backs();
        whoByReadings();
        whoByLasting();
        kindsByLasting();
        wearsByLasting();
        byReadingsToo();
        moreVisitsThanTold();
        troubles();
        check.end();
    }

    private static void readings() {
        FaceGlass x = Check.withCourt("m;h10;h10");
        check.due("t 21", x.reading(21, 0, 0), FaceGlass.OUTSIDE);
        check.due("t -1", x.reading(-1, 0, 0), FaceGlass.OUTSIDE);
        check.due("head 2", x.reading(21, 2, 0), FaceGlass.UNKNOWN);
        check.due("head -1", x.reading(0, -1, 0), FaceGlass.UNKNOWN);
        check.due("mask 2", x.reading(21, 0, 2), FaceGlass.UNKNOWN);
        check.due("mask -1", x.reading(0, 0, -1), FaceGlass.UNKNOWN);
        check.due("no head is smooth", x.reading(0, NONE, NONE), FaceGlass.UNKNOWN);
        for (int k = 0; k < 8; k++) {
            check.due("reading " + k, x.reading(k % 2 == 0 ? 20 : 0, k % 2, k % 2 == 0 ? NONE : 1), k);
        }
        check.due("a ninth", x.reading(0, 0, 0), FaceGlass.FULL);
        check.due("a ninth, outside", x.reading(21, 0, 0), FaceGlass.OUTSIDE);
        check.due("a ninth, unknown", x.reading(21, 0, 5), FaceGlass.UNKNOWN);
        check.due("how many", x.many(1), 8);
        check.due("without a court", new FaceGlass().reading(0, 0, NONE), FaceGlass.UNKNOWN);
    }

    private static void backs() {
        FaceGlass x = Check.withCourt("m;h10;h10");
        check.due("back(0) of none", x.back(0), 0);
        check.due("back(1) of none", x.back(1), FaceGlass.OUTSIDE);
        Check.row(x, 1, 2, 0);
        x.reading(0, 0, 0);
        x.reading(0, 0, 1);
        check.due("what can't be", x.who(0, 1, 2, 0, 1), 0);
        check.due("back(3) of two", x.back(3), FaceGlass.OUTSIDE);
        check.due("back(-1)", x.back(-1), FaceGlass.OUTSIDE);
        check.due("back(0)", x.back(0), 2);
        check.due("the last is taken back", x.back(1), 1);
        check.due("so that it can be", x.who(0, 1, 2, 0, 1), 3);
        check.due("numbers go on", x.reading(1, 0, NONE), 1);
        check.due("by the new one", x.who(0, 1, 2, 0, 1), 1);
        check.due("all of them", x.back(2), 0);
    }

    private static void whoByReadings() {
        FaceGlass x = Check.withCourt("m;h90;h90;h90");
        Check.row(x, 1, 0, 0, 1, 2, 0);
        for (int t = 0; t < 4; t++) {
            check.due("anybody", x.who(t, 1, 0, 0, 4), 7);
        }
        x.reading(2, 1, 0);
        check.due("the first alone", x.who(0, 1, 0, 0, 4), 1);
        check.due("the second alone", x.who(1, 1, 0, 0, 4), 2);
        check.due("later ones anybody", x.who(2, 1, 0, 0, 4), 7);
        x.reading(4, 0, 2);
        check.due("who came third", x.who(2, 1, 0, 0, 4), 4);
        check.due("who came fourth", x.who(3, 1, 0, 0, 4), 1);
        x.reading(1, 0, NONE);
        check.due("smooth", x.who(3, 1, 0, 0, 4), 1);
        x.reading(4, 1, NONE);
        check.due("it was not", x.who(3, 1, 0, 0, 4), 0);
        x.back(4);
        x.reading(0, 2, 2);
        check.due("at the beginning", x.who(3, 1, 0, 0, 4), 7);
        x.reading(0, 2, NONE);
        check.due("not at the beginning", x.who(3, 1, 0, 0, 4), 0);
        x.back(2);
        Check.row(x, 1, 0, 1, 2);
        x.reading(2, 0, NONE);
        check.due("another than who is told", x.who(0, 1, 0, 0, 2), 1);
        check.due("another than who is told", x.who(1, 1, 0, 0, 2), 0);
    }

    private static void whoByLasting() {
        FaceGlass x = Check.withCourt("m;h10;l10;h90");
        Check.row(x, 1, 1, 0, 0, 0, 0);
        check.due("as it is it can't be", x.visits(1, 1, 0, 4, 1), 3);
        check.due("the first another", x.who(0, 1, 1, 0, 4), 6);
        check.due("the second another", x.who(1, 1, 1, 0, 4), 6);
        check.due("the third another", x.who(2, 1, 1, 0, 4), 6);
        check.due("the fourth another: no", x.who(3, 1, 1, 0, 4), 0);
        x.wear(0, 2);
        check.due("the fourth anybody", x.who(3, 1, 1, 0, 4), 7);
    }

    private static void kindsByLasting() {
        FaceGlass x = Check.withCourt("m;h10;s10");
        Check.row(x, 1, 2, new int[20]);
        int[] due = {7, 7, 7, 7, 6, 6, 4, 4, 4, 4, 0, 0};
        for (int n = 0; n < due.length; n++) {
            check.due("kinds by " + n, x.kinds(0, 1, 2, 0, n), due[n]);
            check.due("kinds of the other by " + n, x.kinds(1, 1, 2, 0, n), n < 4 ? 7 : 0);
        }
        x.wear(0, 2);
        int[] more = {7, 7, 7, 7, 7, 7, 6, 6, 4, 4, 4, 4, 4, 4, 0};
        for (int n = 0; n < more.length; n++) {
            check.due("kinds of wear 2 by " + n, x.kinds(0, 1, 2, 0, n), more[n]);
        }
        check.due("the kind stays", x.ofHead(0, 0), 0);
    }

    private static void wearsByLasting() {
        String letters = "hls";
        for (int kind = 0; kind < 3; kind++) {
            FaceGlass x = Check.withCourt("m;" + letters.charAt(kind) + "10;h10");
            Check.row(x, 1, 2, new int[20]);
            for (int n = 0; n <= 20; n++) {
                int set = 0;
                for (int wear = 1; wear <= 9; wear++) {
                    int lasts = kind == 0 ? wear : kind == 1 ? wear + 1 : 2 * (wear + 1);
                    set |= n / 2 <= lasts ? 1 << wear : 0;
                }
                check.due("wears of kind " + kind + " by " + n, x.wears(0, 1, 2, 0, n), set);
            }
            check.due("the wear stays", x.ofHead(0, 1), 1);
        }
    }

    private static void byReadingsToo() {
        FaceGlass x = Check.withCourt("m;h10;s10");
        Check.row(x, 1, 2, 0, 0, 0, 0);
        x.reading(4, 0, 0);
        check.due("kinds", x.kinds(0, 1, 2, 0, 4), 6);
        check.due("wears", x.wears(0, 1, 2, 0, 4), 1020);
        x.reading(3, 0, NONE);
        check.due("kinds", x.kinds(0, 1, 2, 0, 4), 6);
        x.reading(3, 0, 0);
        check.due("kinds", x.kinds(0, 1, 2, 0, 4), 0);
        check.due("wears", x.wears(0, 1, 2, 0, 4), 0);
    }

    private static void moreVisitsThanTold() {
        FaceGlass x = Check.withCourt("m;h90;h90");
        Check.row(x, 1, 2, 0, 0, 0);
        x.reading(3, 1, 1);
        check.due("as many", x.kinds(0, 1, 2, 0, 3), 7);
        check.due("fewer", x.kinds(0, 1, 2, 0, 2), 0);
        check.due("fewer", x.wears(0, 1, 2, 0, 2), 0);
        check.due("fewer", x.who(0, 1, 2, 0, 2), 0);
        check.due("none", x.kinds(0, 1, 2, 0, 0), 0);
        x.back(1);
        check.due("it is taken back", x.wears(0, 1, 2, 0, 0), 1022);
        for (int k = 0; k < 8; k++) {
            x.reading(0, 1, 1);
        }
        check.due("none are needed", x.wears(0, 1, 2, 0, 0), 1022);
    }

    private static void due(FaceGlass x, int got, int want, int fault) {
        check.due("who, kinds or wears", got, want);
        check.due("its fault()", x.fault(), fault);
    }

    private static void troubles() {
        FaceGlass x = new FaceGlass();
        Check.row(x, 1, 2, 0, 1, 5);
        due(x, x.who(0, 1, 2, 0, 1), FaceGlass.STATE, 0);
        due(x, x.kinds(0, 1, 1, 0, 1), FaceGlass.UNKNOWN, 0);
        due(x, x.wears(0, 1, 1, 0, 1), FaceGlass.UNKNOWN, 0);
        Check.court(x, 0, 0, "m;h10;h10");
        due(x, x.who(0, 1, 1, 0, 1), CAST, 2);
        due(x, x.who(9, 4, 3, 0, 0), FaceGlass.UNKNOWN, 0);
        for (int t : new int[] {-1, 2, 9}) {
            x.cell(3, 0, 0);
            due(x, x.who(t, 1, 1, 9, 2), FaceGlass.OUTSIDE, 0);
        }
        due(x, x.who(0, 1, 2, 0, 0), FaceGlass.OUTSIDE, 0);
        due(x, x.who(0, 1, 3, 0, 1), FaceGlass.OUTSIDE, 0);
        due(x, x.who(0, 1, 2, 0, 21), FaceGlass.OUTSIDE, 0);
        due(x, x.who(2, 1, 2, 0, 3), FaceGlass.UNKNOWN, 0);
        due(x, x.who(0, 1, 2, 0, 2), 3, 0);
        due(x, x.who(0, 3, 2, 0, 2), NULL, 1);
        due(x, x.who(0, 1, 2, 2, 2), INDEX, 3);
        for (int call = 0; call < 2; call++) {
            due(x, one(x, call, 2, 4, 3, 0, 99), FaceGlass.UNKNOWN, 0);
            due(x, one(x, call, -1, 1, 2, 0, 1), FaceGlass.UNKNOWN, 0);
            due(x, one(x, call, 1, 4, 3, 0, 99), FaceGlass.UNKNOWN, 0);
            due(x, one(x, call, 1, 3, 3, 0, 1), FaceGlass.OUTSIDE, 0);
            due(x, one(x, call, 1, 3, 2, 0, 21), FaceGlass.OUTSIDE, 0);
            due(x, one(x, call, 1, 3, 2, 0, -1), FaceGlass.OUTSIDE, 0);
            due(x, one(x, call, 1, 1, 1, 0, 9), CAST, 2);
            due(x, one(x, call, 1, 3, 1, 0, 9), NULL, 1);
            due(x, one(x, call, 1, 1, 2, 0, 4), INDEX, 3);
            due(x, one(x, call, 1, 1, 2, 4, 0), INDEX, 3);
            due(x, one(x, call, 1, 1, 2, 0, 3), FaceGlass.UNKNOWN, 0);
            due(x, one(x, call, 1, 1, 2, 3, 0), call == 0 ? 7 : 1022, 0);
        }
    }

    private static int one(FaceGlass x, int call, int p, int sheet, int lane, int i, int n) {
        return call == 0 ? x.kinds(p, sheet, lane, i, n) : x.wears(p, sheet, lane, i, n);
    }
}
