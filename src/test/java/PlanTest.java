/** Promise 7: plan, by all rows of six visits at most. */
public final class PlanTest {
    private static final Check check = new Check("PlanTest");

    public static void main(String[] args) {
        everyPair();
        told();
        refusals();
        check.end();
    }

    private static void everyPair() {
        for (String text : new String[] {"m;h10;h10", "m;h10;l25;s13", "m;s94;h10;h10;l10", "m;h10;h10;h10;h10;h10"}) {
            FaceGlass x = Check.withCourt(text);
            Oracle oracle = Oracle.withCourt(text);
            int heads = (int) oracle.call("many", 0);
            for (int p = 0; p < heads; p++) {
                for (int face = 0; face < heads; face++) {
                    for (int k = -1; k < 6; k++) {
                        String call = text + " plan(" + p + ", " + face + ", " + k + ")";
                        check.due(call, x.plan(p, face, k), oracle.call("plan", p, face, k));
                    }
                }
            }
        }
    }

    private static void told() {
        FaceGlass x = Check.withCourt("m;h10;h10;h10");
        check.due("its own at once", x.plan(2, 2, -1), 0);
        check.due("no first visit", x.plan(2, 2, 0), FaceGlass.NONE);
        check.due("two visits", x.plan(2, 1, -1), 2);
        check.due("the first", x.plan(2, 1, 0), 1);
        check.due("the second", x.plan(2, 1, 1), 2);
        check.due("no third", x.plan(2, 1, 2), FaceGlass.NONE);
        check.due("no sixth", x.plan(2, 1, 5), FaceGlass.NONE);
    }

    private static void refusals() {
        FaceGlass x = Check.withCourt("m;h10;h10;h10");
        check.due("plan(3, 0, 9)", x.plan(3, 0, 9), FaceGlass.UNKNOWN);
        check.due("plan(-1, 0, 0)", x.plan(-1, 0, 0), FaceGlass.UNKNOWN);
        check.due("plan(0, 3, 9)", x.plan(0, 3, 9), FaceGlass.UNKNOWN);
        check.due("plan(0, NONE, 0)", x.plan(0, FaceGlass.NONE, 0), FaceGlass.UNKNOWN);
        check.due("plan(0, 0, -2)", x.plan(0, 0, -2), FaceGlass.OUTSIDE);
        check.due("plan(0, 0, 6)", x.plan(0, 0, 6), FaceGlass.OUTSIDE);
    }
}
