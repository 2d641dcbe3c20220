/** Promise 2, court: the edges. */
public final class Promise02CourtTest {
    private static final int UNKNOWN = Edges.UNKNOWN, OUTSIDE = Edges.OUTSIDE, MIN = Edges.MIN, MAX = Edges.MAX;
    private static final int NULL = Edges.NULL, CAST = Edges.CAST, INDEX = Edges.INDEX, SIZE = Edges.SIZE;
    private static final String FIVE = "m;h10;l25;s91;h94;l53";
    private static final Edges edges = Edges.ofFaultyCall("Promise02CourtTest");

    public static void main(String[] args) {
        twoToFiveHeads();
        theSixthHead();
        justEndsTooSoon();
        noCodesAtAll();
        digitsOfWear();
        digitsOfKnows();
        lettersOfKinds();
        everyPlaceNextToWhatFits();
        codesOfOtherLanes();
        theFirstOfSeveralFaults();
        wrongAheadOfTooSoon();
        placesFromTheTextsBeginning();
        textAtTheEndsOfARow();
        allAnew();
        whatATextLeavesAsItWas();
        rowsThatAreThere();
        refusalsInOrder();
        edges.end();
    }

    private static Edges.Call court(int lane, String text) {
        return x -> x.court(3, lane, 0, text.length());
    }

    private static void taken(String text, int heads) {
        for (int lane = 0; lane < 3; lane++) {
            int asLane = lane;
            edges.at(() -> Scene.hallWithText(asLane, text));
            edges.taken(text, court(lane, text), heads);
        }
    }

    private static void faulty(String text, int place) {
        for (int lane = 0; lane < 3; lane++) {
            int asLane = lane;
            edges.at(() -> Scene.hallWithText(asLane, text));
            edges.leaving(text, court(lane, text), -100 - place);
        }
    }

    private static void twoToFiveHeads() {
        faulty("m", 1);
        faulty(FIVE.substring(0, 5), 5);
        taken(FIVE.substring(0, 9), 2);
        taken(FIVE.substring(0, 13), 3);
        taken(FIVE.substring(0, 17), 4);
        taken(FIVE, 5);
        faulty(FIVE + ";h10", 21);
    }

    private static void theSixthHead() {
        faulty(FIVE + ";", 21);
        faulty(FIVE + ";x", 21);
        faulty(FIVE + "m", 21);
        faulty(FIVE + "0", 21);
        faulty((FIVE + ";h10;h10;h10;h10;h10;h10;h10;h10;h10;h10").substring(0, 60), 21);
    }

    private static void justEndsTooSoon() {
        for (int n = 0; n < FIVE.length(); n++) {
            if (n < 9 || n % 4 != 1) {
                faulty(FIVE.substring(0, n), n);
            }
        }
    }

    private static void noCodesAtAll() {
        faulty("", 0);
        edges.at(Scene::hall);
        edges.leaving("no cells at the row's beginning", x -> x.court(0, 0, 0, 0), -100);
        edges.leaving("no cells at the row's end", x -> x.court(0, 0, 13, 0), -100);
        edges.leaving("no cells of a row of none", x -> x.court(2, 1, 0, 0), -100);
    }

    private static void digitsOfWear() {
        faulty("m;h10;h00", 7);
        taken("m;h10;h10", 2);
        taken("m;h10;h90", 2);
        faulty("m;h10;h:0", 7);
        edges.at(() -> Check.withCourt("m;h10;h90"));
        edges.seen("the least", x -> x.ofHead(0, 1), 1);
        edges.seen("the most", x -> x.ofHead(1, 1), 9);
    }

    private static void digitsOfKnows() {
        faulty("m;h10;h1/", 8);
        taken("m;h10;h10", 2);
        taken("m;h10;h15", 2);
        faulty("m;h10;h16", 8);
        edges.at(() -> Check.withCourt("m;h12;h15"));
        edges.seen("a number that no HEAD of two has", x -> x.ofHead(0, 2), 2);
        edges.seen("a number that no HEAD ever has", x -> x.ofHead(1, 2), 5);
    }

    private static void lettersOfKinds() {
        edges.at(() -> Check.withCourt("m;s10;h10;l10"));
        edges.seen("s", x -> x.ofHead(0, 0), 2);
        edges.seen("h", x -> x.ofHead(1, 0), 0);
        edges.seen("l", x -> x.ofHead(2, 0), 1);
        faulty("m;H10;h10", 2);
        faulty("m;h10;L10", 6);
        faulty("m;h10;h10;S10", 10);
        faulty("M;h10;h10", 0);
    }

    private static boolean fits(int place, int code) {
        String[] codes = {";", "hls", "123456789", "012345"};
        return place == 0 ? code == 'm' : codes[(place - 1) % 4].indexOf(code) >= 0;
    }

    private static void everyPlaceNextToWhatFits() {
        String next = "lmn:;<ghikrst/0156789";
        for (int place = 0; place < FIVE.length(); place++) {
            for (int c = 0; c < next.length(); c++) {
                StringBuilder text = new StringBuilder(FIVE);
                text.setCharAt(place, next.charAt(c));
                if (fits(place, next.charAt(c))) {
                    taken(text.toString(), 5);
                } else {
                    faulty(text.toString(), place);
                }
            }
        }
    }

    private static FaceGlass withCode(int lane, int place, int code) {
        FaceGlass x = Scene.hallWithText(lane, FIVE);
        x.put(3, place, code);
        return x;
    }

    /** What a byte is cut to is a code, what a short or an int holds whole is none. */
    private static void codesOfOtherLanes() {
        for (int place = 0; place < FIVE.length(); place++) {
            int at = place;
            int code = FIVE.charAt(place);
            for (int off : new int[] {256, -256, 65536, -65536, 1 << 24, MIN}) {
                edges.at(() -> withCode(0, at, code + off));
                edges.taken("bytes: " + off + " off at " + place, court(0, FIVE), 5);
                edges.at(() -> withCode(1, at, code + off));
                if (off % 65536 == 0) {
                    edges.taken("shorts: " + off + " off at " + place, court(1, FIVE), 5);
                } else {
                    edges.leaving("shorts: " + off + " off at " + place, court(1, FIVE), -100 - place);
                }
                edges.at(() -> withCode(2, at, code + off));
                edges.leaving("ints: " + off + " off at " + place, court(2, FIVE), -100 - place);
            }
        }
    }

    private static void theFirstOfSeveralFaults() {
        faulty("x;x10;x10", 0);
        faulty("m;x10;x10", 2);
        faulty("m;h06;h10", 3);
        faulty("m;h16;h06", 4);
        faulty("m;h10;h10,h10;h10;h10;h10", 9);
        faulty("m;h10;h10;h10;h10;x10;h10", 18);
    }

    private static void wrongAheadOfTooSoon() {
        faulty("x", 0);
        faulty("mm", 1);
        faulty("m;m", 2);
        faulty("m;h0", 3);
        faulty("m;h16", 4);
        faulty("m;h10m", 5);
        faulty("m;h10;h10m", 9);
        faulty("m;h10;h10;", 10);
    }

    private static void placesFromTheTextsBeginning() {
        edges.at(() -> Scene.hallWithText(0, "xxm;h10;l20;x"));
        edges.taken("a text amid a row", x -> x.court(3, 0, 2, 9), 2);
        edges.leaving("its end too soon", x -> x.court(3, 0, 2, 8), -108);
        edges.leaving("its first fault", x -> x.court(3, 0, 2, 11), -110);
        edges.leaving("begun too early", x -> x.court(3, 0, 1, 9), -100);
        edges.leaving("begun too late", x -> x.court(3, 0, 3, 9), -100);
    }

    private static void textAtTheEndsOfARow() {
        edges.at(() -> Scene.hallWithText(1, "x".repeat(39) + FIVE));
        edges.taken("the last cells of 60", x -> x.court(3, 1, 39, 21), 5);
        edges.refused("one more", x -> x.court(3, 1, 39, 22), INDEX);
        edges.refused("one further", x -> x.court(3, 1, 40, 21), INDEX);
        edges.leaving("one fewer", x -> x.court(3, 1, 39, 20), -120);
    }

    private static void anew(String what, Edges.Call call, long due) {
        edges.seen(what, x -> x.court(0, 0, 0, 13) == 3 ? call.on(x) : 99, due);
    }

    private static void allAnew() {
        edges.at(() -> {
            FaceGlass x = Scene.hall();
            x.wear(0, 9);
            x.knows(0, 5);
            return x;
        });
        anew("no READINGS", x -> x.many(1), 0);
        anew("WEAR by the text", x -> x.ofHead(0, 1), 1);
        anew("KNOWS by the text", x -> x.ofHead(0, 2), 0);
        anew("the next READING's number", x -> x.reading(0, 0, 0), 0);
        anew("no READING to take back", x -> x.back(1), OUTSIDE);
        edges.at(() -> Scene.hallWithText(0, "m;s92;s93"));
        edges.taken("fewer HEADS", court(0, "m;s92;s93"), 2);
        edges.seen("those behind are gone", x -> x.court(3, 0, 0, 9) == 2 ? x.ofHead(2, 0) : 99, UNKNOWN);
    }

    private static void whatATextLeavesAsItWas() {
        edges.at(Scene::hall);
        long trace = Scene.hall().trace();
        anew("TRACE goes on", x -> x.trace(), trace);
        anew("the SHEET is as it was", x -> x.cell(0, 12, 0), '5');
        anew("other SHEETS are as they were", x -> x.cell(1, 1, 2), 2);
        anew("what comes to the SHEET later does not matter",
            x -> x.put(0, 3, '9') == 1 ? x.ofHead(0, 1) : 99, 1);
    }

    private static void rowsThatAreThere() {
        for (int k = 0; k < 4; k++) {
            int sheet = k;
            edges.at(() -> {
                FaceGlass x = Scene.withoutCourt();
                Scene.text(x, sheet, 2, FIVE);
                return x;
            });
            edges.taken("SHEET " + k, x -> x.court(sheet, 2, 0, 21), 5);
        }
        edges.at(Scene::hall);
        edges.refused("i -1, none taken", x -> x.court(0, 0, -1, 0), INDEX);
        edges.refused("i beyond, none taken", x -> x.court(0, 0, 14, 0), INDEX);
        edges.refused("i beyond a row of none, none taken", x -> x.court(2, 1, 1, 0), INDEX);
        edges.refused("one of a row of none", x -> x.court(2, 1, 0, 1), INDEX);
        edges.refused("i and n that wrap", x -> x.court(0, 0, 13, MAX), INDEX);
        edges.refused("i and n that wrap", x -> x.court(0, 0, MAX, MAX), INDEX);
        edges.refused("nothing is no CAST", x -> x.court(3, 0, 0, 0), NULL);
        edges.refused("nothing is no CAST", x -> x.court(3, 2, 0, 0), NULL);
        edges.refused("a row of none is of a LANE", x -> x.court(2, 2, 0, 0), CAST);
        edges.refused("a row of none is no SIZE", x -> x.court(2, 1, 0, -1), SIZE);
    }

    private static void refusalsInOrder() {
        edges.at(Scene::hall);
        edges.inOrder((x, a) -> x.court(a[0], a[1], a[2], a[3]), new int[] {0, 0, 0, 13},
            new int[][] {{UNKNOWN, 0, -1, 4, MIN, MAX}, {OUTSIDE, 1, -1, 3, MIN, MAX}, {NULL, 0, 3},
                {CAST, 1, 1, 2}, {SIZE, 3, -1, MIN}, {INDEX, 2, -1, 1, 14, MIN, MAX}, {INDEX, 3, 14, MAX}});
    }
}
