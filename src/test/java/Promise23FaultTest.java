/** Promise 23, fault: the edges. */
public final class Promise23FaultTest {
    private static final int NULL = 1, CAST = 2, INDEX = 3, SIZE = 4;
    private static final Check check = new Check("Promise23FaultTest");

    public static void main(String[] args) {
        noneAheadOfAny();
        eachFault();
        eachCallThatNamesFaults();
        eachCallThatNamesNone();
        refusedCallsThatNameNone();
        firstFaultsAndFirstWrongsAreNone();
        theLatestOfSeveral();
        askedOnceMore();
        check.end();
    }

    /** The hall, behind a call that left a FAULT. */
    private static FaceGlass behind(int fault) {
        FaceGlass x = Scene.hall();
        switch (fault) {
            case NULL: x.put(3, 0, 0); break;
            case CAST: x.as(0, 2); break;
            case INDEX: x.put(0, 60, 0); break;
            case SIZE: x.sheet(0, 0, -1); break;
            default: x.as(0, 0); break;
        }
        check.due("the FAULT ahead", x.fault(), fault);
        return x;
    }

    private static void noneAheadOfAny() {
        check.due("of a new object", new FaceGlass().fault(), 0);
        FaceGlass x = new FaceGlass();
        x.ofHead(0, 0);
        x.lose(0);
        x.back(1);
        check.due("behind calls that name none", x.fault(), 0);
        x.visits(4, 0, 0, 0, 0);
        check.due("behind a refused call that names some", x.fault(), 0);
    }

    private static void eachFault() {
        for (int before = 0; before <= SIZE; before++) {
            left("NULL", before, x -> x.court(3, 0, 0, 0), -11, NULL);
            left("CAST", before, x -> x.court(0, 1, 0, 0), -12, CAST);
            left("INDEX", before, x -> x.court(0, 0, 0, 14), -13, INDEX);
            left("SIZE", before, x -> x.court(0, 0, 0, -1), -14, SIZE);
        }
    }

    private static void left(String call, int before, Edges.Call made, long due, int fault) {
        FaceGlass x = behind(before);
        check.due(call, made.on(x), due);
        check.due("fault() behind " + call + ", behind " + before, x.fault(), fault);
    }

    private static void names(String call, Edges.Call taken, long due, Edges.Call refused, long refusal) {
        for (int before = 0; before <= SIZE; before++) {
            left(call, before, taken, due, 0);
            left(call + ", refused", before, refused, refusal, 0);
        }
    }

    private static void eachCallThatNamesFaults() {
        names("court", x -> x.court(0, 0, 0, 13), 3, x -> x.court(4, 0, 0, 13), -1);
        names("visits", x -> x.visits(1, 2, 0, 4, 2), 4, x -> x.visits(1, 2, 0, 21, 0), -2);
        names("visits of no HEAD", x -> x.visits(1, 2, 0, 4, 14), -9, x -> x.visits(1, 2, 0, 5, 0), -1);
        names("who", x -> x.who(0, 1, 2, 0, 4), 1, x -> x.who(4, 1, 2, 0, 4), -2);
        names("kinds", x -> x.kinds(0, 1, 2, 0, 4), 7, x -> x.kinds(3, 1, 2, 0, 4), -1);
        names("wears", x -> x.wears(0, 1, 2, 0, 4), 1022, x -> x.wears(0, 1, 3, 0, 4), -2);
        names("sheet", x -> x.sheet(0, 0, 60), 1, x -> x.sheet(0, 0, 61), -2);
        names("put", x -> x.put(0, 0, 1), 1, x -> x.put(4, 0, 1), -1);
        names("cell", x -> x.cell(0, 0, 0), 'm', x -> x.cell(0, 0, 3), FaceGlass.LOST);
        names("copy", x -> x.copy(0, 0, 0, 1, 2), 2, x -> x.copy(0, 0, 4, 1, 2), -1);
        names("as", x -> x.as(2, 1), 1, x -> x.as(2, 3), -2);
        for (int before = 0; before <= SIZE; before++) {
            left("visits", before, x -> x.visits(1, 1, 0, 4, 2), -12, CAST);
            left("who", before, x -> x.who(0, 3, 2, 0, 4), -11, NULL);
            left("kinds", before, x -> x.kinds(0, 1, 2, 3, 4), -13, INDEX);
            left("wears", before, x -> x.wears(0, 1, 0, 0, 4), -12, CAST);
            left("sheet", before, x -> x.sheet(0, 0, -1), -14, SIZE);
            left("put", before, x -> x.put(2, 0, 1), -13, INDEX);
            left("cell", before, x -> x.cell(3, 0, 0), FaceGlass.LOST, NULL);
            left("copy", before, x -> x.copy(0, 0, 1, 0, 1), -12, CAST);
            left("as", before, x -> x.as(1, 2), -12, CAST);
        }
    }

    private static void namesNone(String call, Edges.Call made, long due) {
        for (int before = 0; before <= SIZE; before++) {
            left(call, before, made, due, before);
        }
    }

    private static void eachCallThatNamesNone() {
        namesNone("ofHead", x -> x.ofHead(0, 0), 0);
        namesNone("wear", x -> x.wear(0, 9), 1);
        namesNone("knows", x -> x.knows(0, 5), 0);
        namesNone("plan", x -> x.plan(0, 1, -1), 2);
        namesNone("reading", x -> x.reading(0, 0, 0), 2);
        namesNone("back", x -> x.back(1), 1);
        namesNone("odds", x -> x.odds(0, 0, 0, 0), 1);
        namesNone("lose", x -> x.lose(0), 1);
        namesNone("lose of nothing", x -> x.lose(3), 0);
        namesNone("tell", x -> x.tell(0), 1);
        namesNone("greet", x -> x.greet(0), 0);
        namesNone("trace", x -> x.trace(), Scene.hall().trace());
        namesNone("many", x -> x.many(0), 3);
    }

    private static void refusedCallsThatNameNone() {
        namesNone("ofHead, refused", x -> x.ofHead(3, 0), -1);
        namesNone("wear, refused", x -> x.wear(0, 10), -2);
        namesNone("knows, refused", x -> x.knows(0, 6), -2);
        namesNone("plan, refused", x -> x.plan(0, 3, -1), -1);
        namesNone("reading, refused", x -> x.reading(21, 0, 0), -2);
        namesNone("back, refused", x -> x.back(3), -2);
        namesNone("odds, refused", x -> x.odds(0, 0, 6, 0), FaceGlass.LOST);
        namesNone("lose, refused", x -> x.lose(4), -1);
        namesNone("tell, refused", x -> x.tell(3), -1);
        namesNone("greet, refused", x -> x.greet(3), -1);
        namesNone("many, refused", x -> x.many(2), -2);
    }

    /** They are answers of calls that came to no FAULT, though they are below -10, too. */
    private static void firstFaultsAndFirstWrongsAreNone() {
        for (int before = 0; before <= SIZE; before++) {
            left("a FIRST FAULT", before, x -> x.court(0, 0, 0, 0), -100, 0);
            left("a FIRST FAULT", before, x -> x.court(0, 0, 0, 12), -112, 0);
        }
        left("a FIRST WRONG", SIZE, Promise23FaultTest::wrongVisits, -103, 0);
    }

    private static long wrongVisits(FaceGlass x) {
        Check.row(x, 1, 2, 0, 0, 0, 0);
        x.sheet(0, 0, -1);
        return x.visits(1, 2, 0, 4, 0);
    }

    private static void theLatestOfSeveral() {
        FaceGlass x = Scene.hall();
        x.put(3, 0, 0);
        x.put(0, 13, 0);
        check.due("the later one", x.fault(), INDEX);
        x.as(0, 1);
        x.tell(0);
        check.due("the latest that names one", x.fault(), CAST);
        x.as(0, 3);
        check.due("a refused one is the latest", x.fault(), 0);
        x.sheet(3, 2, -1);
        check.due("and then another", x.fault(), SIZE);
    }

    private static void askedOnceMore() {
        for (int before = 0; before <= SIZE; before++) {
            FaceGlass x = behind(before);
            check.due("asked once more", x.fault(), before);
            check.due("and once more", x.fault(), before);
        }
    }
}
