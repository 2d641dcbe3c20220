import java.util.ArrayList;
import java.util.List;

/** Objects on which the edges of a promise are tried, and all that calls can see of an object. */
final class Scene {
    /** HEAD 0 lasts once, LORD 1 three times, SPY 2 eight times; 1 and 2 KNOW numbers that no HEAD has. */
    static final String TEXT = "m;h10;l24;s35";
    /** Four VISITS that can be, then the first number that no HEAD has, and one below all. */
    static final int[] ROW = {0, 2, 0, 1, 3, -1};
    static final int VISITS_OF_ROW = 4;

    private Scene() {
    }

    /**
     * A COURT of three; SHEET 0 has its TEXT in bytes, 1 the ROW in ints, 2 a row of no shorts, 3 nothing;
     * two READINGS that are so by the ROW; a TRACE.
     */
    static FaceGlass hall() {
        FaceGlass x = Check.withCourt(TEXT);
        rows(x);
        x.tell(2);
        x.reading(1, 0, FaceGlass.NONE);
        x.reading(2, 2, 0);
        return x;
    }

    /** The same SHEETS, and no COURT. */
    static FaceGlass withoutCourt() {
        FaceGlass x = new FaceGlass();
        text(x, 0, 0, TEXT);
        rows(x);
        return x;
    }

    /** The hall, with a text on SHEET 3. */
    static FaceGlass hallWithText(int lane, String text) {
        FaceGlass x = hall();
        text(x, 3, lane, text);
        return x;
    }

    /** The hall, with numbers on SHEET 3. */
    static FaceGlass hallWithRow(int lane, int... numbers) {
        FaceGlass x = hall();
        Check.row(x, 3, lane, numbers);
        return x;
    }

    /** A COURT by another text, with numbers as ints on SHEET 1. */
    static FaceGlass courtWithRow(String text, int... numbers) {
        FaceGlass x = Check.withCourt(text);
        Check.row(x, 1, 2, numbers);
        return x;
    }

    static void text(FaceGlass x, int sheet, int lane, String text) {
        x.sheet(sheet, lane, text.length());
        for (int i = 0; i < text.length(); i++) {
            x.put(sheet, i, text.charAt(i));
        }
    }

    private static void rows(FaceGlass x) {
        Check.row(x, 1, 2, ROW);
        x.sheet(2, 1, 0);
    }

    /** All but fault(). The object is not as it was behind this. */
    static List<Long> seen(FaceGlass x) {
        List<Long> all = new ArrayList<>();
        all.add((long) x.trace());
        seeHeads(x, all);
        for (int k = 0; k < 4; k++) {
            seeSheet(x, k, all);
        }
        seeReadings(x, all);
        return all;
    }

    private static void seeHeads(FaceGlass x, List<Long> all) {
        all.add((long) x.many(0));
        for (int p = 0; p < 5; p++) {
            for (int what = 0; what < 3; what++) {
                all.add((long) x.ofHead(p, what));
            }
        }
    }

    /** By the FAULT of a cell that there can't be: of which LANE it is, or that it has nothing. */
    private static void seeSheet(FaceGlass x, int k, List<Long> all) {
        for (int lane = 0; lane < 3; lane++) {
            x.cell(k, 60, lane);
            int fault = x.fault();
            all.add((long) fault);
            for (int i = 0; fault == 3 && i <= 60; i++) {
                long cell = x.cell(k, i, lane);
                all.add(cell);
                if (cell == FaceGlass.LOST) {
                    break;
                }
            }
        }
    }

    /** By what follows from them, the last taken back one by one. */
    private static void seeReadings(FaceGlass x, List<Long> all) {
        Check.row(x, 3, 2, ROW);
        for (int left = x.many(1); left >= 0; left--) {
            all.add((long) left);
            for (int t = 0; t < VISITS_OF_ROW; t++) {
                all.add((long) x.who(t, 3, 2, 0, VISITS_OF_ROW));
            }
            for (int p = 0; p < 3; p++) {
                all.add((long) x.kinds(p, 3, 2, 0, VISITS_OF_ROW));
                all.add((long) x.wears(p, 3, 2, 0, VISITS_OF_ROW));
            }
            x.back(1);
        }
    }
}
