/** Promise 1, a new object: the edges. */
public final class Promise01NewObjectTest {
    private static final Check check = new Check("Promise01NewObjectTest");

    public static void main(String[] args) {
        noFaultAheadOfAnyCall();
        noCourt();
        noHeadForAnyCall();
        sheetsHaveNothing();
        visitsOfARowWithoutACourt();
        objectsShareNothing();
        theLastCallOf512();
        check.end();
    }

    private static void noFaultAheadOfAnyCall() {
        check.due("fault() ahead of any call", new FaceGlass().fault(), 0);
        check.due("trace() ahead of any call", new FaceGlass().trace(), 0);
    }

    private static void noCourt() {
        check.due("HEADS", new FaceGlass().many(0), 0);
        check.due("READINGS", new FaceGlass().many(1), 0);
        check.due("back(0) of no READINGS", new FaceGlass().back(0), 0);
        check.due("back(1) of no READINGS", new FaceGlass().back(1), FaceGlass.OUTSIDE);
        check.due("back(-1) of no READINGS", new FaceGlass().back(-1), FaceGlass.OUTSIDE);
    }

    /** The numbers beside it may be wrong, too: UNKNOWN is told first. */
    private static void noHeadForAnyCall() {
        FaceGlass x = new FaceGlass();
        int unknown = FaceGlass.UNKNOWN;
        for (int p : new int[] {Integer.MIN_VALUE, FaceGlass.NONE, -1, 0, 1, 4, 5, Integer.MAX_VALUE}) {
            check.due("ofHead", x.ofHead(p, 4), unknown);
            check.due("wear", x.wear(p, 1), unknown);
            check.due("knows", x.knows(p, 0), unknown);
            check.due("plan of a HEAD", x.plan(p, 0, 6), unknown);
            check.due("plan of a MASK", x.plan(0, p, 6), unknown);
            check.due("reading", x.reading(0, p, FaceGlass.NONE), unknown);
            check.due("kinds", x.kinds(p, 0, 0, 0, 0), unknown);
            check.due("wears", x.wears(p, 0, 3, 0, 21), unknown);
            check.due("odds", x.odds(p, p, 0, 0), FaceGlass.LOST);
            check.due("tell", x.tell(p), unknown);
            check.due("greet", x.greet(p), unknown);
            check.due("as", x.as(p, 3), unknown);
        }
        check.due("TRACE is as it was", x.trace(), 0);
        check.due("no FAULT was come to", x.fault(), 0);
    }

    private static void nothing(FaceGlass x, String call, long got, long want) {
        check.due(call + " of nothing", got, want);
        check.due("fault() of " + call + " of nothing", x.fault(), 1);
    }

    private static void sheetsHaveNothing() {
        for (int k = 0; k < 4; k++) {
            for (int lane = 0; lane < 3; lane++) {
                FaceGlass x = new FaceGlass();
                nothing(x, "court", x.court(k, lane, 0, 0), -11);
                nothing(x, "visits", x.visits(k, lane, 0, 0, 0), -11);
                nothing(x, "who", x.who(0, k, lane, 0, 1), -11);
                nothing(x, "cell", x.cell(k, 0, lane), FaceGlass.LOST);
                nothing(x, "put", x.put(k, 0, 0), -11);
                nothing(x, "copy", x.copy(k, 0, k, 0, 0), -11);
                check.due("lose", x.lose(k), 0);
            }
        }
    }

    private static void visitsOfARowWithoutACourt() {
        FaceGlass x = new FaceGlass();
        x.sheet(0, 2, 1);
        check.due("visits of none", x.visits(0, 2, 0, 0, 0), FaceGlass.STATE);
        check.due("visits of one", x.visits(0, 2, 0, 1, 0), FaceGlass.STATE);
        check.due("who", x.who(0, 0, 2, 0, 1), FaceGlass.STATE);
    }

    private static void objectsShareNothing() {
        FaceGlass used = Scene.hall();
        FaceGlass x = new FaceGlass();
        check.due("HEADS beside another object's", x.many(0), 0);
        check.due("READINGS beside another object's", x.many(1), 0);
        check.due("TRACE beside another object's", x.trace(), 0);
        check.due("SHEETS beside another object's", x.lose(0), 0);
        check.due("the other has its own", used.many(0), 3);
        check.due("the other has its own", used.lose(0), 1);
    }

    private static void theLastCallOf512() {
        FaceGlass x = Check.withCourt("m;h10;h10");
        int trace = 0;
        for (int call = 12; call <= 511; call++) {
            check.due("greet", x.greet(1), 1);
            trace = 31 * trace + 4;
        }
        check.due("the 512th call", x.trace(), trace);
    }
}
