/** Promise 6: visits. */
public final class VisitsTest {
    private static final int NULL = -11, CAST = -12, INDEX = -13, NONE = FaceGlass.NONE;
    private static final Check check = new Check("VisitsTest");

    public static void main(String[] args) {
        noVisits();
        fewVisits();
        fiveHeads();
        firstWrongs();
        homes();
        everyHome();
        fooled();
        worn();
        lanesAndPlaces();
        refusals();
        cellsThatAreNoHeads();
        check.end();
    }

    private static int visits(FaceGlass x, int what, int... row) {
        Check.row(x, 1, 2, row);
        return x.visits(1, 2, 0, row.length, what);
    }

    private static void all(FaceGlass x, int[] row, int[] whats, int[] due) {
        for (int k = 0; k < whats.length; k++) {
            check.due("visits with what " + whats[k], visits(x, whats[k], row), due[k]);
        }
    }

    private static void noVisits() {
        FaceGlass x = Check.withCourt("m;h10;h10");
        all(x, new int[0], new int[] {0, 1, 2, 3, 4, 10, 11, 12, 13, 14, 20, 21, 22, 24, 30, 31, 32, 34},
            new int[] {3, NONE, 0, NONE, NONE, 0, 1, NONE, NONE, NONE, 0, 0, NONE, NONE, 0, 0, NONE, NONE});
    }

    private static void fewVisits() {
        FaceGlass x = Check.withCourt("m;h10;l10;s15");
        all(x, new int[] {0}, new int[] {0, 1, 2, 3, 4, 10, 11, 12, 20, 30, 31, 32},
            new int[] {6, NONE, 1, 0, NONE, NONE, 1, 2, 0, 0, 0, 0});
        all(x, new int[] {0, 2}, new int[] {0, 1, 2, 3, 4, 10, 11, 12, 20, 22, 30, 31, 32},
            new int[] {2, NONE, 2, 2, 0, NONE, 1, 0, 1, 0, 1, 1, 0});
        all(x, new int[] {0, 2, 0}, new int[] {0, 1, 2, 3, 4, 10, 11, 12, 20, 22, 30, 31, 32},
            new int[] {2, NONE, 3, NONE, 0, 2, 1, 0, 1, 1, 1, 1, 1});
    }

    private static void fiveHeads() {
        FaceGlass x = Check.withCourt("m;h10;l10;s15;h23;s14");
        int[] whats = {0, 1, 2, 3, 4, 10, 11, 12, 13, 14, 20, 21, 22, 23, 24, 30, 31, 32, 33, 34};
        int[] due = {14, NONE, 3, NONE, 0, 4, 1, 2, 3, 0, 1, 0, 0, 0, 1, 1, 1, 2, 2, 1};
        all(x, new int[] {0, 4, 0}, whats, due);
        check.due("fewer heads behind more", Check.court(x, 0, 0, "m;h95;h95"), 2);
        check.due("two wear their own", visits(x, 0), 3);
        check.due("none is worn", visits(x, 4), NONE);
    }

    private static void firstWrongs() {
        int[] toAndFro = new int[20];
        FaceGlass x = Check.withCourt("m;h10;l30");
        check.due("one's own is taken at 1", visits(x, 1, 0, 0), NONE);
        check.due("and again at 3", visits(x, 1, 0, 0, 0, 0), 3);
        check.due("told by the others", visits(x, 0, 0, 0, 0, 0), -103);
        check.due("the first of several", visits(x, 1, 0, 0, 0, 0, 0, 0, 0, 0), 3);
        check.due("what 34 of a first wrong", visits(x, 34, 0, 0, 0, 0, 0), -103);
        check.due("what 14 of a first wrong", visits(x, 14, 0, 0, 0, 0, 0), -103);
        for (int wear = 1; wear <= 9; wear++) {
            x = Check.withCourt("m;h" + wear + "0;l" + wear + "0;s" + wear + "0");
            int[] lasts = {wear, wear + 1, 2 * (wear + 1)};
            for (int p = 0; p < 3; p++) {
                java.util.Arrays.fill(toAndFro, p);
                int first = 2 * lasts[p] + 1;
                check.due("how long a mask lasts", visits(x, 1, toAndFro), first < 20 ? first : NONE);
                check.due("taken", visits(x, 20 + p, toAndFro), first < 20 ? -100 - first : 10);
            }
        }
        x = Check.withCourt("m;h10;l10");
        x.wear(0, 2);
        check.due("by the wear as it is now", visits(x, 1, 0, 0, 0, 0), NONE);
        check.due("by the wear as it is now", visits(x, 1, 0, 0, 0, 0, 0, 0), 5);
    }

    private static void homes() {
        FaceGlass x = Check.withCourt("m;s90;s90;s90;s90;s90");
        check.due("all at home", visits(x, 2, 3, 3), 0);
        check.due("one smooth", visits(x, 2, 3), 1);
        check.due("two changed", visits(x, 2, 0, 1, 0), 3);
        check.due("two pairs changed", visits(x, 2, 0, 1, 0, 2, 3, 2), 6);
        check.due("two pairs changed, and one smooth", visits(x, 2, 0, 1, 0, 2, 3, 2, 4), 7);
        check.due("a ring of five", visits(x, 2, 0, 1, 2, 3, 4, 0), 6);
        check.due("a ring through the glass", visits(x, 2, 0, 1, 2, 3, 4), 5);
        x = Check.withCourt("m;h10;h10");
        check.due("home, however often they were taken", visits(x, 2, 0, 1, 0), 3);
    }

    /** By every seventh of all rows of seven visits: seven bring home all that is farthest off. */
    private static void everyHome() {
        String text = "m;s90;s90;s90;s90;s90";
        Oracle oracle = Oracle.withCourt(text);
        oracle.call("sheet", 1, 2, 7);
        for (int number = 0; number < 78125; number += 7) {
            FaceGlass x = Check.withCourt(text);
            x.sheet(1, 2, 7);
            int rest = number;
            for (int v = 0; v < 7; v++) {
                x.put(1, v, rest % 5);
                oracle.call("put", 1, v, rest % 5);
                rest /= 5;
            }
            check.due("home of row " + number, x.visits(1, 2, 0, 7, 2), oracle.call("visits", 1, 2, 0, 7, 2));
        }
    }

    private static void fooled() {
        FaceGlass x = Check.withCourt("m;h95;h91;h93;h93");
        int[] row = {0, 1, 2, 3, 0};
        int[] due = {3, 3, 2, 3};
        for (int p = 0; p < 4; p++) {
            check.due("all wear others': fooled " + p, visits(x, 30 + p, row), due[p]);
        }
        x.knows(0, 2);
        check.due("one is known", visits(x, 30, row), 2);
        check.due("who is smooth fools nobody", visits(x, 32, 0), 0);
        check.due("who wears one's own fools nobody", visits(x, 32, 0, 0), 0);
        check.due("no such head", visits(x, 34, 0, 0), NONE);
    }

    private static void worn() {
        FaceGlass x = Check.withCourt("m;h95;h91;h93;h93");
        check.due("none", visits(x, 4, 2), NONE);
        check.due("the one", visits(x, 4, 2, 2), 2);
        check.due("the least of two", visits(x, 4, 2, 2, 1, 1), 1);
        check.due("the most often", visits(x, 4, 2, 2, 1, 1, 2, 2), 2);
        check.due("taken twice", visits(x, 22, 2, 2, 1, 1, 2, 2), 2);
        check.due("taken once", visits(x, 21, 2, 2, 1, 1, 2, 2), 1);
        check.due("never taken", visits(x, 20, 2, 2, 1, 1, 2, 2), 0);
        check.due("by others, too", visits(x, 22, 2, 0, 1, 0, 3), 2);
    }

    private static void lanesAndPlaces() {
        for (int lane = 0; lane < 3; lane++) {
            FaceGlass x = Check.withCourt("m;h95;h91;h93");
            Check.row(x, 3, lane, 7, 0, 2, -1);
            check.due("amid a row", x.visits(3, lane, 1, 2, 12), 0);
            check.due("none of them", x.visits(3, lane, 0, 0, 0), 7);
            check.due("none of them, at the end", x.visits(3, lane, 4, 0, 0), 7);
            check.due("one of them is none", x.visits(3, lane, 1, 3, 0), FaceGlass.UNKNOWN);
        }
        FaceGlass x = Check.withCourt("m;s95;h91");
        Check.row(x, 2, 0, new int[60]);
        check.due("20 visits", x.visits(2, 0, 40, 20, 20), 10);
        check.due("20 visits, not all there", x.visits(2, 0, 41, 20, 20), INDEX);
    }

    private static void due(FaceGlass x, int got, int want, int fault) {
        check.due("visits", got, want);
        check.due("fault() of visits", x.fault(), fault);
    }

    private static void refusals() {
        FaceGlass x = new FaceGlass();
        Check.row(x, 1, 2, 0, 1, 0);
        due(x, x.visits(-1, 3, 0, 0, 0), FaceGlass.UNKNOWN, 0);
        due(x, x.visits(4, 2, 0, 0, 0), FaceGlass.UNKNOWN, 0);
        due(x, x.visits(0, 3, 0, 0, 0), FaceGlass.OUTSIDE, 0);
        due(x, x.visits(0, -1, 0, 0, 0), FaceGlass.OUTSIDE, 0);
        due(x, x.visits(0, 2, 0, -1, 0), FaceGlass.OUTSIDE, 0);
        due(x, x.visits(1, 1, 0, 21, 0), FaceGlass.OUTSIDE, 0);
        for (int what : new int[] {-1, 5, 9, 15, 19, 25, 29, 35, 40, 44, Integer.MAX_VALUE, Integer.MIN_VALUE}) {
            due(x, x.visits(1, 0, 9, 0, what), FaceGlass.OUTSIDE, 0);
        }
        due(x, x.visits(1, 1, 9, 9, 0), CAST, 2);
        due(x, x.visits(0, 1, 9, 9, 0), NULL, 1);
        due(x, x.visits(1, 2, 0, 4, 0), INDEX, 3);
        due(x, x.visits(1, 2, -1, 0, 0), INDEX, 3);
        due(x, x.visits(1, 2, 4, 0, 0), INDEX, 3);
        due(x, x.visits(1, 2, Integer.MAX_VALUE, 20, 0), INDEX, 3);
        due(x, x.visits(1, 2, 0, 3, 0), FaceGlass.STATE, 0);
        due(x, x.visits(1, 2, 4, 0, 0), INDEX, 3);
        due(x, x.visits(1, 2, 3, 0, 0), FaceGlass.STATE, 0);
    }

    private static void cellsThatAreNoHeads() {
        FaceGlass x = Check.withCourt("m;h10;h10");
        due(x, visits(x, 1, 0, 2), FaceGlass.UNKNOWN, 0);
        due(x, visits(x, 1, -9), FaceGlass.UNKNOWN, 0);
        due(x, visits(x, 0, 0, 0, 0, 0, Integer.MAX_VALUE), FaceGlass.UNKNOWN, 0);
        x.cell(3, 0, 0);
        due(x, visits(x, 34, Integer.MIN_VALUE), FaceGlass.UNKNOWN, 0);
    }
}
