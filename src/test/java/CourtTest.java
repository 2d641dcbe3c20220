/** Promises 1 to 5: a new object, court, ofHead, wear, knows. */
public final class CourtTest {
    private static final int NULL = -11, CAST = -12, INDEX = -13, SIZE = -14;
    private static final Check check = new Check("CourtTest");

    public static void main(String[] args) {
        newObject();
        textsTaken();
        firstFaults();
        everyCodeAtEveryPlace();
        lanes();
        refusalsOfCourt();
        allAnew();
        ofHead();
        wear();
        knows();
        check.end();
    }

    private static void newObject() {
        FaceGlass x = new FaceGlass();
        check.due("heads of a new object", x.many(0), 0);
        check.due("readings of a new object", x.many(1), 0);
        check.due("trace of a new object", x.trace(), 0);
        check.due("fault of a new object", x.fault(), 0);
        for (int k = 0; k < 4; k++) {
            check.due("lose of a new object", x.lose(k), 0);
            check.due("put on nothing", x.put(k, 0, 1), NULL);
        }
        check.due("ofHead without a court", x.ofHead(0, 0), FaceGlass.UNKNOWN);
        check.due("plan without a court", x.plan(0, 0, -1), FaceGlass.UNKNOWN);
        check.due("tell without a court", x.tell(0), FaceGlass.UNKNOWN);
    }

    private static void textsTaken() {
        taken("m;h10;h10", 2);
        taken("m;h95;l94;s93", 3);
        taken("m;s10;s21;s32;s43", 4);
        taken("m;h10;l25;s31;h42;l53", 5);
    }

    private static void taken(String text, int heads) {
        FaceGlass x = new FaceGlass();
        check.due("court " + text, Check.court(x, 0, 0, text), heads);
        check.due("heads of " + text, x.many(0), heads);
        for (int p = 0; p < heads; p++) {
            int at = 1 + 4 * p;
            check.due(text + " kind", x.ofHead(p, 0), "hls".indexOf(text.charAt(at + 1)));
            check.due(text + " wear", x.ofHead(p, 1), text.charAt(at + 2) - '0');
            check.due(text + " knows", x.ofHead(p, 2), text.charAt(at + 3) - '0');
        }
        check.due("no more heads", x.ofHead(heads, 0), FaceGlass.UNKNOWN);
    }

    private static void firstFaults() {
        String whole = "m;h10;l25;s31;h42;l53";
        for (int n = 0; n <= whole.length(); n++) {
            boolean taken = n >= 9 && n % 4 == 1;
            check.due("its first " + n, Check.court(new FaceGlass(), 0, 0, whole.substring(0, n)),
                taken ? n / 4 : -100 - n);
        }
        faulty("x", 0);
        faulty("mm", 1);
        faulty("m;x", 2);
        faulty("m;;", 2);
        faulty("m;H10;h10", 2);
        faulty("m;h00;h10", 3);
        faulty("m;h16;h10", 4);
        faulty("m;h1/;h10", 4);
        faulty("m;h10,h10", 5);
        faulty("m;h10;h10m", 9);
        faulty("m;h10;h:0", 7);
        faulty("m;h10;h10;h10;h10;h10;h10", 21);
        faulty("m;h10;h10;h10;h10;h10;", 21);
        faulty("m;h10;h10;h10;h10;h10x", 21);
    }

    private static void faulty(String text, int place) {
        FaceGlass x = Check.withCourt("m;h10;s25;l31");
        x.reading(0, 0, 0);
        x.put(3, 0, 0);
        check.due("court " + text, Check.court(x, 0, 0, text), -100 - place);
        check.due("fault of " + text, x.fault(), 0);
        check.due("heads stay", x.many(0), 3);
        check.due("readings stay", x.many(1), 1);
        check.due("kind stays", x.ofHead(1, 0), 2);
        check.due("knows stays", x.ofHead(1, 2), 5);
    }

    private static void everyCodeAtEveryPlace() {
        String text = "m;h10;l25";
        String[] good = {"m", ";", "hls", "123456789", "012345", ";", "hls", "123456789", "012345"};
        for (int place = 0; place < text.length(); place++) {
            for (int code = -130; code < 400; code++) {
                FaceGlass x = new FaceGlass();
                Check.court(x, 0, 2, text);
                x.put(0, place, code);
                boolean fits = code > 0 && good[place].indexOf(code) >= 0;
                check.due("code " + code + " at " + place, x.court(0, 2, 0, 9), fits ? 2 : -100 - place);
            }
        }
    }

    private static void lanes() {
        FaceGlass x = new FaceGlass();
        for (int lane = 0; lane < 3; lane++) {
            check.due("court of lane " + lane, Check.court(x, lane, lane, "m;s35;l20"), 2);
        }
        Check.row(x, 0, 0, 109 + 256, 59, 104, 49, 48, 59, 104, 49, 48 - 256);
        check.due("bytes are cut", x.court(0, 0, 0, 9), 2);
        Check.row(x, 0, 1, 109 + 65536, 59, 104, 49, 48, 59, 104, 49, 48);
        check.due("shorts are cut", x.court(0, 1, 0, 9), 2);
        Check.row(x, 0, 2, 109 + 65536, 59, 104, 49, 48, 59, 104, 49, 48);
        check.due("ints are not cut", x.court(0, 2, 0, 9), -100);
        Check.row(x, 0, 0, 7, 7, 109, 59, 104, 49, 48, 59, 108, 50, 49, 7);
        check.due("a text amid a row", x.court(0, 0, 2, 9), 2);
        check.due("a text amid a row: wear", x.ofHead(1, 1), 2);
        check.due("a text amid a row: first fault from its own beginning on", x.court(0, 0, 2, 10), -109);
        check.due("a text amid a row: too soon", x.court(0, 0, 2, 8), -108);
    }

    private static void refusalsOfCourt() {
        FaceGlass x = new FaceGlass();
        Check.court(x, 0, 0, "m;h10;h10");
        check.due("no sheet -1", x.court(-1, 0, 0, 9), FaceGlass.UNKNOWN);
        check.due("no sheet 4", x.court(4, 3, 0, 9), FaceGlass.UNKNOWN);
        check.due("lane 3", x.court(0, 3, 0, 9), FaceGlass.OUTSIDE);
        check.due("lane -1 of nothing", x.court(1, -1, 0, 9), FaceGlass.OUTSIDE);
        faulted(x, 2, x.court(0, 1, 0, -1), CAST);
        faulted(x, 1, x.court(1, 0, 0, -1), NULL);
        faulted(x, 1, x.court(1, 2, 0, 9), NULL);
        faulted(x, 4, x.court(0, 0, 0, -1), SIZE);
        faulted(x, 4, x.court(0, 0, -1, Integer.MIN_VALUE), SIZE);
        faulted(x, 3, x.court(0, 0, 0, 10), INDEX);
        faulted(x, 3, x.court(0, 0, 1, 9), INDEX);
        faulted(x, 3, x.court(0, 0, -1, 9), INDEX);
        faulted(x, 3, x.court(0, 0, -1, 0), INDEX);
        faulted(x, 3, x.court(0, 0, 10, 0), INDEX);
        faulted(x, 3, x.court(0, 0, 5, Integer.MAX_VALUE), INDEX);
        faulted(x, 3, x.court(0, 0, Integer.MAX_VALUE, 1), INDEX);
        faulted(x, 0, x.court(0, 0, 9, 0), -100);
        faulted(x, 3, x.court(0, 0, 10, 0), INDEX);
        faulted(x, 0, x.court(4, 0, 0, 9), FaceGlass.UNKNOWN);
        faulted(x, 3, x.court(0, 0, 10, 0), INDEX);
        faulted(x, 0, x.court(0, 0, 0, 9), 2);
    }

    private static void faulted(FaceGlass x, int fault, int got, int want) {
        check.due("court with fault " + fault, got, want);
        check.due("its fault()", x.fault(), fault);
    }

    private static void allAnew() {
        FaceGlass x = Check.withCourt("m;h10;s25;l31");
        x.wear(0, 7);
        x.knows(0, 4);
        x.reading(0, 0, 0);
        x.reading(3, 1, FaceGlass.NONE);
        check.due("readings", x.many(1), 2);
        check.due("the same text again", x.court(0, 0, 0, 13), 3);
        check.due("no readings", x.many(1), 0);
        check.due("wear is anew", x.ofHead(0, 1), 1);
        check.due("knows is anew", x.ofHead(0, 2), 0);
        x.put(0, 3, '9');
        check.due("what comes to the sheet later does not matter", x.ofHead(0, 1), 1);
        check.due("fewer heads", x.court(0, 0, 0, 9), 2);
        check.due("the third is gone", x.ofHead(2, 0), FaceGlass.UNKNOWN);
    }

    private static void ofHead() {
        FaceGlass x = Check.withCourt("m;h35;l34;s30;h10;s93");
        int[][] due = {{0, 3, 5, 3}, {1, 3, 4, 4}, {2, 3, 0, 8}, {0, 1, 0, 1}, {2, 9, 3, 20}};
        for (int p = 0; p < 5; p++) {
            for (int what = 0; what < 4; what++) {
                check.due("ofHead(" + p + ", " + what + ")", x.ofHead(p, what), due[p][what]);
            }
            check.due("ofHead(" + p + ", -1)", x.ofHead(p, -1), FaceGlass.OUTSIDE);
            check.due("ofHead(" + p + ", 4)", x.ofHead(p, 4), FaceGlass.OUTSIDE);
        }
        check.due("ofHead(5, 9)", x.ofHead(5, 9), FaceGlass.UNKNOWN);
        check.due("ofHead(-1, 0)", x.ofHead(-1, 0), FaceGlass.UNKNOWN);
    }

    private static void wear() {
        FaceGlass x = Check.withCourt("m;h35;l34;s30");
        check.due("wear(2, 9)", x.wear(2, 9), 3);
        check.due("wear(2, 1)", x.wear(2, 1), 9);
        check.due("wear(2, 0)", x.wear(2, 0), FaceGlass.OUTSIDE);
        check.due("wear(2, 10)", x.wear(2, 10), FaceGlass.OUTSIDE);
        check.due("wear(3, 0)", x.wear(3, 0), FaceGlass.UNKNOWN);
        check.due("wear(-1, 1)", x.wear(-1, 1), FaceGlass.UNKNOWN);
        check.due("it is", x.ofHead(2, 1), 1);
        check.due("it lasts", x.ofHead(2, 3), 4);
        check.due("others' stays", x.ofHead(1, 1), 3);
    }

    private static void knows() {
        FaceGlass x = Check.withCourt("m;h35;l34;s30");
        check.due("knows(1, 0)", x.knows(1, 0), 4);
        check.due("knows(1, 5)", x.knows(1, 5), 0);
        check.due("knows(1, 6)", x.knows(1, 6), FaceGlass.OUTSIDE);
        check.due("knows(1, -1)", x.knows(1, -1), FaceGlass.OUTSIDE);
        check.due("knows(3, 6)", x.knows(3, 6), FaceGlass.UNKNOWN);
        check.due("knows(-1, 0)", x.knows(-1, 0), FaceGlass.UNKNOWN);
        check.due("it is", x.ofHead(1, 2), 5);
        check.due("others' stays", x.ofHead(2, 2), 0);
    }
}
