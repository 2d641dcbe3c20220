/** Promises 19 to 22 and 24: tell, greet, as, trace, many. */
public final class PartsTest {
    private static final Check check = new Check("PartsTest");
    private static int trace;

    public static void main(String[] args) {
        telling();
        greeting();
        wrapping();
        taking();
        counting();
        check.end();
    }

    private static void left(FaceGlass x, int... numbers) {
        for (int number : numbers) {
            trace = 31 * trace + number;
        }
        check.due("trace()", x.trace(), trace);
    }

    private static void telling() {
        FaceGlass x = Check.withCourt("m;h40;l50;s60");
        trace = 0;
        left(x);
        check.due("a head's telling", x.tell(0), 4);
        left(x, 1);
        check.due("a lord's telling", x.tell(1), 105);
        left(x, 2, 1);
        check.due("a spy's telling", x.tell(2), 112);
        left(x, 3, 2, 1, 1);
        x.wear(2, 9);
        check.due("a spy's telling of another wear", x.tell(2), 118);
        left(x, 3, 2, 1, 1);
        check.due("nobody's telling", x.tell(3), FaceGlass.UNKNOWN);
        check.due("nobody's telling", x.tell(-1), FaceGlass.UNKNOWN);
        left(x);
        check.due("a court anew", x.court(0, 0, 0, 13), 3);
        left(x);
    }

    private static void greeting() {
        FaceGlass x = Check.withCourt("m;s40;l50;h60;s10;h10");
        trace = 0;
        int[] due = {90, 1, 2, 90, 4};
        for (int p = 0; p < 5; p++) {
            check.due("greet(" + p + ")", x.greet(p), due[p]);
            left(x, due[p] == 90 ? 5 : 4);
        }
        check.due("greet(5)", x.greet(5), FaceGlass.UNKNOWN);
        check.due("greet(-1)", x.greet(-1), FaceGlass.UNKNOWN);
        left(x);
    }

    private static void wrapping() {
        FaceGlass x = Check.withCourt("m;s40;l50");
        trace = 0;
        boolean below = false;
        for (int k = 0; k < 40; k++) {
            x.tell(0);
            left(x, 3, 2, 1, 1);
            below |= trace < 0;
        }
        check.due("it wraps", below ? 1 : 0, 1);
    }

    private static void taking() {
        FaceGlass x = Check.withCourt("m;h10;l10;s10");
        for (int p = 0; p < 3; p++) {
            for (int kind = 0; kind < 3; kind++) {
                check.due("as(" + p + ", " + kind + ")", x.as(p, kind), p >= kind ? 1 : -12);
                check.due("its fault()", x.fault(), p >= kind ? 0 : 2);
            }
        }
        for (int kind : new int[] {-1, 3, Integer.MAX_VALUE, Integer.MIN_VALUE}) {
            x.as(0, 2);
            check.due("as(0, " + kind + ")", x.as(0, kind), FaceGlass.OUTSIDE);
            check.due("its fault()", x.fault(), 0);
            x.as(0, 2);
            check.due("as(3, " + kind + ")", x.as(3, kind), FaceGlass.UNKNOWN);
            check.due("its fault()", x.fault(), 0);
        }
        check.due("as(-1, 0)", x.as(-1, 0), FaceGlass.UNKNOWN);
        check.due("it leaves nothing", x.trace(), 0);
    }

    private static void counting() {
        FaceGlass x = Check.withCourt("m;h10;l10;s10");
        check.due("heads", x.many(0), 3);
        for (int k = 0; k < 8; k++) {
            check.due("readings", x.many(1), k);
            x.reading(k, 0, 0);
        }
        check.due("readings", x.many(1), 8);
        check.due("many(2)", x.many(2), FaceGlass.OUTSIDE);
        check.due("many(-1)", x.many(-1), FaceGlass.OUTSIDE);
    }
}
