import java.util.Arrays;

/** Promise 6, visits: the edges. */
public final class Promise06VisitsTest {
    private static final int UNKNOWN = Edges.UNKNOWN, OUTSIDE = Edges.OUTSIDE, STATE = Edges.STATE, NONE = Edges.NONE;
    private static final int NULL = Edges.NULL, CAST = Edges.CAST, INDEX = Edges.INDEX;
    private static final int MIN = Edges.MIN, MAX = Edges.MAX;
    private static final Edges edges = Edges.ofFaultyCall("Promise06VisitsTest");

    public static void main(String[] args) {
        noneToTwentyVisits();
        everyQuestionAndNoOther();
        noVisitsAtAll();
        noneToAllWearTheirOwn();
        anEmptyGlass();
        smooth();
        takenAsOftenAsItLasts();
        lastsAsItIsNow();
        theFirstOfSeveralThatAreWrong();
        wrongOnTheLastOfTwenty();
        wrongForAllButItself();
        home();
        theLeastOfSeveralWorn();
        fooledByOthersAlone();
        fooledAndKnowing();
        noSuchHead();
        rowsThatAreThere();
        cellsThatAreHeads();
        cellsThatAreCut();
        noHeadAheadOfWrong();
        withoutACourt();
        refusalsInOrder();
        edges.end();
    }

    private static void at(String text, int... row) {
        edges.at(() -> Scene.courtWithRow(text, row));
    }

    /** All n VISITS of the row on SHEET 1. */
    private static void visits(String sentence, int n, int what, int due) {
        edges.leaving(sentence, x -> x.visits(1, 2, 0, n, what), due);
    }

    private static void noneToTwentyVisits() {
        at("m;s90;h10", new int[22]);
        edges.refused("-1", x -> x.visits(1, 2, 0, -1, 20), OUTSIDE);
        visits("0", 0, 20, 0);
        visits("1", 1, 20, 0);
        visits("19", 19, 20, 9);
        visits("20", 20, 20, 10);
        edges.refused("21", x -> x.visits(1, 2, 0, 21, 20), OUTSIDE);
        edges.refused("22", x -> x.visits(1, 2, 0, 22, 20), OUTSIDE);
    }

    private static void everyQuestionAndNoOther() {
        at("m;s90;h10;h10;h10;h10");
        for (int what = -12; what <= 60; what++) {
            int asked = what;
            if (what >= 0 && what < 40 && what % 10 <= 4) {
                int[] due = {what == 0 ? 31 : what == 2 ? 0 : NONE, what % 10, 0, 0};
                visits("what " + what, 0, what, due[what / 10]);
            } else {
                edges.refused("what " + what, x -> x.visits(1, 2, 0, 0, asked), OUTSIDE);
            }
        }
    }

    private static void noVisitsAtAll() {
        at("m;h10;h10");
        visits("all wear their own", 0, 0, 3);
        visits("none is wrong", 0, 1, NONE);
        visits("all are home", 0, 2, 0);
        visits("none is in the glass", 0, 3, NONE);
        visits("none was TAKEN", 0, 4, NONE);
        visits("the last HEAD's", 0, 11, 1);
        visits("how often", 0, 21, 0);
        visits("none is FOOLED", 0, 31, 0);
    }

    private static void noneToAllWearTheirOwn() {
        at("m;h90;h90;h90", 0, 1, 2, 0, 0, 2, 1, 0);
        visits("all", 0, 0, 0b111);
        visits("all but the first", 1, 0, 0b110);
        visits("the last", 2, 0, 0b100);
        visits("none, one SMOOTH", 3, 0, 0);
        visits("none, none SMOOTH", 4, 0, 0);
        visits("the last again", 6, 0, 0b100);
        visits("the last two again", 7, 0, 0b110);
        visits("all again", 8, 0, 0b111);
        at("m;h90;h90", 1);
        visits("all but the last", 1, 0, 0b01);
    }

    private static void anEmptyGlass() {
        at("m;h10;h10;h10", 1, 1, 2);
        visits("one's own stays in it", 1, 3, 1);
        visits("out of an empty one none is TAKEN", 1, 4, NONE);
        visits("it is empty again", 2, 3, NONE);
        visits("and one was TAKEN", 2, 21, 1);
        visits("filled again", 3, 3, 2);
        visits("without another TAKEN", 3, 22, 0);
    }

    private static void smooth() {
        at("m;h10;h10;h10", 1, 0, 1);
        visits("it wears none", 1, 11, NONE);
        visits("it does not wear its own", 1, 0, 5);
        visits("it still does", 2, 11, NONE);
        visits("until its next VISIT", 3, 11, 0);
        visits("by which the glass is empty", 3, 3, NONE);
    }

    private static int[] toAndFro(int p, int n) {
        int[] row = new int[n];
        Arrays.fill(row, p);
        return row;
    }

    /** By one HEAD's VISITS alone: its MASK is TAKEN at 1, 3, 5 .. */
    private static void takenAsOftenAsItLasts() {
        String[] letters = {"h", "l", "s"};
        for (int wear = 1; wear <= 9; wear++) {
            int[] lasts = {wear, wear + 1, 2 * (wear + 1)};
            for (int kind = 0; kind < 3; kind++) {
                int most = 2 * lasts[kind];
                String head = letters[kind] + wear;
                for (int n = most; n <= most + 2 && n <= 20; n++) {
                    at("m;h10;" + head + "0", toAndFro(1, n));
                    visits(head + " by " + n, n, 1, n <= most + 1 ? NONE : most + 1);
                    visits(head + " TAKEN by " + n, n, 21, n <= most + 1 ? n / 2 : -100 - (most + 1));
                }
            }
        }
    }

    private static FaceGlass worn(int wear) {
        FaceGlass x = Scene.courtWithRow("m;h30;h10", toAndFro(0, 6));
        x.wear(0, wear);
        return x;
    }

    private static void lastsAsItIsNow() {
        at("m;h30;h10", toAndFro(0, 6));
        visits("by the text", 6, 1, NONE);
        edges.at(() -> worn(2));
        visits("by less WEAR", 6, 1, 5);
        edges.at(() -> worn(1));
        visits("by the least WEAR", 6, 1, 3);
        edges.at(() -> worn(9));
        visits("by the most WEAR", 6, 1, NONE);
    }

    private static void theFirstOfSeveralThatAreWrong() {
        at("m;h10;h10", 1, 1, 0, 0, 0, 0, 1, 1);
        visits("MASK 0 at 5, ahead of MASK 1 at 7", 8, 1, 5);
        at("m;h10;h10", 1, 0, 1, 0, 0);
        visits("MASKS that others took", 5, 1, 4);
        visits("and told by another question", 5, 0, -104);
    }

    private static void wrongOnTheLastOfTwenty() {
        at("m;h90;h10", toAndFro(0, 20));
        visits("the 20th", 20, 1, 19);
        visits("the 20th, told by another question", 20, 2, -119);
        visits("none of 19", 19, 1, NONE);
    }

    private static void wrongForAllButItself() {
        at("m;h10;h10", 0, 0, 0, 0);
        for (int what = 0; what < 40; what++) {
            if (what % 10 <= 4) {
                visits("what " + what + ", be there such a HEAD or not", 4, what, what == 1 ? 3 : -103);
            }
        }
    }

    private static void home() {
        at("m;h10;h10;h10;h10;h10", 0, 1, 0, 2, 3, 2, 4);
        visits("none", 0, 2, 0);
        visits("one is SMOOTH", 1, 2, 1);
        visits("a ring with the glass", 2, 2, 2);
        visits("a ring without it", 3, 2, 3);
        visits("two rings", 6, 2, 6);
        visits("two rings, and one SMOOTH: no court is farther off", 7, 2, 7);
        at("m;h10;h10", 0, 0);
        visits("however often they were TAKEN", 1, 2, 1);
        visits("home again", 2, 2, 0);
    }

    private static void theLeastOfSeveralWorn() {
        at("m;h90;h90;h90", 2, 2, 1, 1, 2, 2, 0, 0, 0, 0);
        visits("none TAKEN", 1, 4, NONE);
        visits("one", 2, 4, 2);
        visits("the least of two", 4, 4, 1);
        visits("the most", 6, 4, 2);
        visits("the most, though another was TAKEN, too", 8, 4, 2);
        visits("the least of two, the last one TAKEN", 10, 4, 0);
    }

    private static void fooledByOthersAlone() {
        at("m;h95;h95;h95", 0, 1, 0);
        visits("SMOOTH ones are nobody", 1, 31, 0);
        visits("its own does not FOOL it", 2, 31, 0);
        visits("others are FOOLED by it", 2, 30, 1);
        visits("and who wears its own, too", 2, 32, 1);
        visits("one of two that changed", 3, 30, 1);
        visits("both", 3, 32, 2);
    }

    private static FaceGlass knowing(int known) {
        FaceGlass x = Scene.courtWithRow("m;h95;h95;h95;h95;h95", 0, 1, 0, 2, 3);
        x.knows(4, known);
        return x;
    }

    /** 0 and 1 have changed MASKS, 2 is SMOOTH, 3 wears that of 2. */
    private static void fooledAndKnowing() {
        int[] due = {2, 2, 3, 2, 3, 3};
        for (int v = 0; v <= 5; v++) {
            int known = v;
            edges.at(() -> knowing(known));
            visits("who KNOWS " + v, 5, 34, due[v]);
        }
    }

    private static void noSuchHead() {
        String five = "m;h10;h10;h10;h10;h10";
        for (int n = 2; n <= 5; n++) {
            at(five.substring(0, 1 + 4 * n));
            for (int p = 0; p < 5; p++) {
                visits("MASK of " + p + " of " + n, 0, 10 + p, p < n ? p : NONE);
                visits("TAKEN " + p + " of " + n, 0, 20 + p, p < n ? 0 : NONE);
                visits("FOOLING " + p + " of " + n, 0, 30 + p, p < n ? 0 : NONE);
            }
        }
    }

    private static void rowsThatAreThere() {
        edges.at(Scene::hall);
        edges.leaving("all that are HEADS", x -> x.visits(1, 2, 0, 4, 3), 1);
        edges.leaving("from amid the row on", x -> x.visits(1, 2, 1, 3, 11), 0);
        edges.leaving("none, at the beginning", x -> x.visits(1, 2, 0, 0, 0), 7);
        edges.leaving("none, at the end", x -> x.visits(1, 2, 6, 0, 0), 7);
        edges.leaving("none of a row of none", x -> x.visits(2, 1, 0, 0, 0), 7);
        edges.refused("none, ahead of the row", x -> x.visits(1, 2, -1, 0, 0), INDEX);
        edges.refused("none, beyond the end", x -> x.visits(1, 2, 7, 0, 0), INDEX);
        edges.refused("none, beyond a row of none", x -> x.visits(2, 1, 1, 0, 0), INDEX);
        edges.refused("one of a row of none", x -> x.visits(2, 1, 0, 1, 0), INDEX);
        edges.refused("one more than there are", x -> x.visits(1, 2, 3, 4, 0), INDEX);
        edges.refused("i and n that wrap", x -> x.visits(1, 2, MAX, 20, 0), INDEX);
        edges.refused("nothing is no CAST", x -> x.visits(3, 0, 0, 0, 0), NULL);
        edges.refused("a row of none is of a LANE", x -> x.visits(2, 2, 0, 0, 0), CAST);
        at("m;s90;h10", new int[60]);
        edges.leaving("the last 20 of 60", x -> x.visits(1, 2, 40, 20, 20), 10);
        edges.refused("one further", x -> x.visits(1, 2, 41, 20, 20), INDEX);
    }

    private static void cellsThatAreHeads() {
        String five = "m;h10;h10;h10;h10;h10";
        for (int n = 2; n <= 5; n++) {
            String text = five.substring(0, 1 + 4 * n);
            int[] cells = {MIN, -9, -1, 0, n - 1, n, 5, 48, 256, 65536, MAX};
            for (int cell : cells) {
                at(text, 0, cell);
                if (cell >= 0 && cell < n) {
                    visits("cell " + cell + " of " + n, 2, 1, NONE);
                } else {
                    edges.refused("cell " + cell + " of " + n, x -> x.visits(1, 2, 0, 2, 1), UNKNOWN);
                    visits("cell " + cell + " of " + n + " is not taken", 1, 1, NONE);
                }
            }
        }
    }

    private static void cellsThatAreCut() {
        edges.at(() -> Scene.hallWithRow(0, 256, 514, -256, 257));
        edges.leaving("to bytes", x -> x.visits(3, 0, 0, 4, 12), 0);
        edges.at(() -> Scene.hallWithRow(1, 65536, 131074, -65536, 65537));
        edges.leaving("to shorts", x -> x.visits(3, 1, 0, 4, 12), 0);
        edges.at(() -> Scene.hallWithRow(1, 256));
        edges.refused("shorts not to bytes", x -> x.visits(3, 1, 0, 1, 12), UNKNOWN);
    }

    private static void noHeadAheadOfWrong() {
        at("m;h10;h10", 0, 0, 0, 0, 2);
        visits("wrong at 3", 4, 1, 3);
        edges.refused("wrong at 3, and no HEAD behind it", x -> x.visits(1, 2, 0, 5, 1), UNKNOWN);
        edges.refused("the same, told by another question", x -> x.visits(1, 2, 0, 5, 0), UNKNOWN);
    }

    private static void withoutACourt() {
        edges.at(Scene::withoutCourt);
        edges.refused("of HEADS", x -> x.visits(1, 2, 0, 4, 0), STATE);
        edges.refused("of none", x -> x.visits(1, 2, 0, 0, 0), STATE);
        edges.refused("of a row of none", x -> x.visits(2, 1, 0, 0, 14), STATE);
        edges.refused("of no HEADS at all", x -> x.visits(1, 2, 4, 2, 0), STATE);
    }

    private static void refusalsInOrder() {
        edges.at(Scene::hall);
        edges.inOrder((x, a) -> x.visits(a[0], a[1], a[2], a[3], a[4]), new int[] {1, 2, 0, 4, 0}, new int[][] {
            {UNKNOWN, 0, -1, 4, MIN, MAX}, {OUTSIDE, 1, -1, 3}, {OUTSIDE, 3, -1, 21, MIN, MAX},
            {OUTSIDE, 4, -1, 5, 35, MIN, MAX}, {NULL, 0, 3}, {CAST, 1, 0, 1}, {INDEX, 2, -1, 7, MIN, MAX},
            {INDEX, 3, 7, 20}, {STATE, Edges.OBJECT, 0}, {UNKNOWN, 2, 1}, {UNKNOWN, 3, 5}});
    }
}
