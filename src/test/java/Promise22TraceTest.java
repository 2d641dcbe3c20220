import java.math.BigInteger;

/** Promise 22, trace: the edges. */
public final class Promise22TraceTest {
    private static final Edges edges = Edges.ofPlainCall("Promise22TraceTest");

    public static void main(String[] args) {
        zeroAtFirst();
        anIntThatWraps();
        whatLeavesItAsItIs();
        edges.end();
    }

    private static void zeroAtFirst() {
        edges.at(FaceGlass::new);
        edges.leaving("of a new object", x -> x.trace(), 0);
        edges.at(Scene::withoutCourt);
        edges.leaving("without a COURT", x -> x.trace(), 0);
        edges.at(() -> Check.withCourt("m;h10;h10"));
        edges.leaving("of a new COURT", x -> x.trace(), 0);
    }

    private static FaceGlass greeted(int times, int p) {
        FaceGlass x = Check.withCourt("m;h10;s10");
        for (int k = 0; k < times; k++) {
            x.greet(p);
        }
        return x;
    }

    /** By numbers without an end, cut to the lowest 32 bits. */
    private static void anIntThatWraps() {
        for (int p = 0; p < 2; p++) {
            int head = p;
            BigInteger whole = BigInteger.ZERO;
            for (int n = 1; n <= 40; n++) {
                int times = n;
                whole = whole.multiply(BigInteger.valueOf(31)).add(BigInteger.valueOf(4 + p));
                edges.at(() -> greeted(times, head));
                edges.leaving(n + " times", x -> x.trace(), whole.intValue());
            }
        }
        edges.at(() -> greeted(6, 0));
        edges.leaving("the last that is still whole", x -> x.trace(), 118333824);
        edges.at(() -> greeted(7, 0));
        edges.leaving("the first that wraps", x -> x.trace(), 3668348548L - (1L << 32));
    }

    private static void whatLeavesItAsItIs() {
        edges.at(Scene::hall);
        long trace = Scene.hall().trace();
        edges.leaving("asked once more", x -> x.trace() == trace ? x.trace() : 99, trace);
        edges.seen("a COURT anew", x -> x.court(0, 0, 0, 13) == 3 ? x.trace() : 99, trace);
        edges.seen("as", x -> x.as(2, 1) == 1 ? x.trace() : 99, trace);
        edges.seen("a HEAD that is not told", x -> x.tell(3) == Edges.UNKNOWN ? x.trace() : 99, trace);
        edges.seen("a HEAD that is not greeted", x -> x.greet(3) == Edges.UNKNOWN ? x.trace() : 99, trace);
    }
}
