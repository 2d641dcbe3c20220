/** Promise 18, copy: the edges. */
public final class Promise18CopyTest {
    private static final int UNKNOWN = Edges.UNKNOWN, NULL = Edges.NULL, CAST = Edges.CAST, INDEX = Edges.INDEX;
    private static final int MIN = Edges.MIN, MAX = Edges.MAX;
    private static final Edges edges = Edges.ofFaultyCall("Promise18CopyTest");

    public static void main(String[] args) {
        theFirstAndTheLastSheet();
        noneToAll();
        allOfSixty();
        asTheyWere();
        rowsOfNone();
        beyondTheFirst();
        beyondTheOther();
        numbersThatWrap();
        nothing();
        unlikeLanes();
        refusalsInOrder();
        edges.end();
    }

    /** SHEET 0 has 5 ints, 1 has 3 ints, 2 has 3 shorts, 3 nothing; a COURT and READINGS as in the hall. */
    private static FaceGlass rows() {
        FaceGlass x = Scene.hall();
        Check.row(x, 0, 2, 1, 2, 3, 4, MIN);
        Check.row(x, 1, 2, 10, 20, 30);
        Check.row(x, 2, 1, 7, 8, 9);
        return x;
    }

    /** What a SHEET has behind a copy, in one number of the answers and its cells' digits. */
    private static void behind(String sentence, Edges.Call copy, int n, int k, int... cells) {
        edges.taken(sentence, copy, n);
        for (int i = 0; i < cells.length; i++) {
            int at = i;
            edges.seen(sentence + ": cell " + i + " of SHEET " + k,
                x -> copy.on(x) == n ? x.cell(k, at, 2) : 99, cells[i]);
        }
    }

    private static void theFirstAndTheLastSheet() {
        edges.at(() -> {
            FaceGlass x = rows();
            Check.row(x, 3, 2, 5);
            return x;
        });
        edges.refused("from -1", x -> x.copy(-1, 0, 0, 0, 1), UNKNOWN);
        edges.refused("from 4", x -> x.copy(4, 0, 0, 0, 1), UNKNOWN);
        edges.refused("to -1", x -> x.copy(0, 0, -1, 0, 1), UNKNOWN);
        edges.refused("to 4", x -> x.copy(0, 0, 4, 0, 1), UNKNOWN);
        behind("from 0 to 3", x -> x.copy(0, 1, 3, 0, 1), 1, 3, 2);
        behind("from 3 to 0", x -> x.copy(3, 0, 0, 4, 1), 1, 0, 1, 2, 3, 4, 5);
    }

    private static void noneToAll() {
        edges.at(Promise18CopyTest::rows);
        edges.refused("-1", x -> x.copy(0, 0, 1, 0, -1), INDEX);
        edges.leaving("0", x -> x.copy(0, 0, 1, 0, 0), 0);
        edges.leaving("0, at both ends", x -> x.copy(0, 5, 1, 3, 0), 0);
        behind("1", x -> x.copy(0, 0, 1, 0, 1), 1, 1, 1, 20, 30);
        behind("all that the other can have", x -> x.copy(0, 0, 1, 0, 3), 3, 1, 1, 2, 3);
        behind("the last ones", x -> x.copy(0, 2, 1, 0, 3), 3, 1, 3, 4, MIN);
        behind("all that the first has", x -> x.copy(1, 0, 0, 2, 3), 3, 0, 1, 2, 10, 20, 30);
        behind("all that the first has, which stay there", x -> x.copy(1, 0, 0, 2, 3), 3, 1, 10, 20, 30);
        edges.refused("one more than the other can have", x -> x.copy(0, 0, 1, 0, 4), INDEX);
        edges.refused("one more than the first has", x -> x.copy(1, 0, 0, 0, 4), INDEX);
    }

    private static void allOfSixty() {
        edges.at(() -> {
            FaceGlass x = new FaceGlass();
            x.sheet(0, 2, 60);
            x.sheet(3, 2, 60);
            x.put(0, 59, 9);
            return x;
        });
        edges.taken("60", x -> x.copy(0, 0, 3, 0, 60), 60);
        edges.seen("the last of 60", x -> x.copy(0, 0, 3, 0, 60) == 60 ? x.cell(3, 59, 2) : 99, 9);
        edges.refused("61", x -> x.copy(0, 0, 3, 0, 61), INDEX);
    }

    private static void asTheyWere() {
        edges.at(Promise18CopyTest::rows);
        edges.leaving("all to where they are", x -> x.copy(0, 0, 0, 0, 5), 5);
        behind("further on", x -> x.copy(0, 0, 0, 1, 4), 4, 0, 1, 1, 2, 3, 4);
        behind("further back", x -> x.copy(0, 1, 0, 0, 4), 4, 0, 2, 3, 4, MIN, MIN);
        edges.refused("further on, one too many", x -> x.copy(0, 0, 0, 1, 5), INDEX);
        edges.refused("further back, one too many", x -> x.copy(0, 1, 0, 0, 5), INDEX);
        edges.leaving("none to where they are", x -> x.copy(0, 5, 0, 5, 0), 0);
    }

    private static void rowsOfNone() {
        edges.at(() -> {
            FaceGlass x = rows();
            x.sheet(3, 2, 0);
            return x;
        });
        edges.leaving("none of none", x -> x.copy(3, 0, 3, 0, 0), 0);
        edges.leaving("none of none, to others", x -> x.copy(3, 0, 0, 5, 0), 0);
        edges.leaving("none to none", x -> x.copy(0, 5, 3, 0, 0), 0);
        edges.refused("one of none", x -> x.copy(3, 0, 0, 0, 1), INDEX);
        edges.refused("one to none", x -> x.copy(0, 0, 3, 0, 1), INDEX);
        edges.refused("none, beyond none", x -> x.copy(3, 1, 0, 0, 0), INDEX);
        edges.refused("none of none, of unlike LANES", x -> x.copy(3, 0, 2, 0, 0), CAST);
    }

    private static void beyondTheFirst() {
        edges.at(Promise18CopyTest::rows);
        edges.refused("i -1, none taken", x -> x.copy(0, -1, 1, 0, 0), INDEX);
        edges.refused("i -1", x -> x.copy(0, -1, 1, 0, 1), INDEX);
        edges.refused("i 6 of 5, none taken", x -> x.copy(0, 6, 1, 0, 0), INDEX);
        edges.refused("i 5 of 5, one taken", x -> x.copy(0, 5, 1, 0, 1), INDEX);
        edges.refused("i 3 of 5, three taken", x -> x.copy(0, 3, 1, 0, 3), INDEX);
        edges.taken("i 4 of 5, one taken", x -> x.copy(0, 4, 1, 0, 1), 1);
    }

    private static void beyondTheOther() {
        edges.at(Promise18CopyTest::rows);
        edges.refused("j -1, none taken", x -> x.copy(0, 0, 1, -1, 0), INDEX);
        edges.refused("j -1", x -> x.copy(0, 0, 1, -1, 1), INDEX);
        edges.refused("j 4 of 3, none taken", x -> x.copy(0, 0, 1, 4, 0), INDEX);
        edges.refused("j 3 of 3, one taken", x -> x.copy(0, 0, 1, 3, 1), INDEX);
        edges.refused("j 1 of 3, three taken", x -> x.copy(0, 0, 1, 1, 3), INDEX);
        edges.taken("j 2 of 3, one taken", x -> x.copy(0, 0, 1, 2, 1), 1);
    }

    private static void numbersThatWrap() {
        edges.at(Promise18CopyTest::rows);
        edges.refused("i and n", x -> x.copy(0, MAX, 1, 0, MAX), INDEX);
        edges.refused("j and n", x -> x.copy(0, 0, 1, MAX, MAX), INDEX);
        edges.refused("i, j and n", x -> x.copy(0, MAX, 1, MAX, 2), INDEX);
        edges.refused("n", x -> x.copy(0, 1, 1, 1, MAX), INDEX);
    }

    private static void nothing() {
        edges.at(Promise18CopyTest::rows);
        edges.refused("the first", x -> x.copy(3, 0, 0, 0, 0), NULL);
        edges.refused("the other", x -> x.copy(0, 0, 3, 0, 0), NULL);
        edges.refused("both", x -> x.copy(3, 0, 3, 0, 0), NULL);
        edges.refused("the other, of whatever LANE the first is", x -> x.copy(2, 0, 3, 0, 0), NULL);
    }

    private static void unlikeLanes() {
        for (int a = 0; a < 3; a++) {
            for (int b = 0; b < 3; b++) {
                int first = a;
                int other = b;
                edges.at(() -> {
                    FaceGlass x = new FaceGlass();
                    Check.row(x, 0, first, 4);
                    Check.row(x, 1, other, 5);
                    return x;
                });
                if (a == b) {
                    edges.taken("both of LANE " + a, x -> x.copy(0, 0, 1, 0, 1), 1);
                } else {
                    edges.refused("LANES " + a + " and " + b, x -> x.copy(0, 0, 1, 0, 1), CAST);
                    edges.refused("LANES " + a + " and " + b + ", none taken", x -> x.copy(0, 0, 1, 0, 0), CAST);
                }
            }
        }
    }

    private static void refusalsInOrder() {
        edges.at(Promise18CopyTest::rows);
        edges.inOrder((x, a) -> x.copy(a[0], a[1], a[2], a[3], a[4]), new int[] {0, 2, 1, 0, 3}, new int[][] {
            {UNKNOWN, 0, -1, 4, MIN, MAX}, {UNKNOWN, 2, -1, 4, MIN, MAX}, {NULL, 0, 3}, {NULL, 2, 3},
            {CAST, 2, 2}, {INDEX, 1, -1, 3, 6, MAX}, {INDEX, 3, -1, 1, 4, MAX}, {INDEX, 4, -1, 4, MIN, MAX}});
    }
}
