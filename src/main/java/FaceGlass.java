/** The duke's glass that lends faces. What each call promises stands in ../shared/DOC.md. */
public final class FaceGlass {
    public static final int UNKNOWN = -1, OUTSIDE = -2, STATE = -3, FULL = -4, NONE = -9;
    public static final long LOST = Long.MIN_VALUE;

    private static final int FAULTS_FROM = -10;
    private static final int NULL_FAULT = -11, CAST_FAULT = -12, INDEX_FAULT = -13, SIZE_FAULT = -14;
    private static final int WRONG_FROM = -100;

    private static final int LORD = 1, SPY = 2, KINDS = 3;
    private static final int FEWEST_HEADS = 2, MOST_HEADS = 5, CODES_OF_HEAD = 4;
    private static final int MOST_WEAR = 9, MOST_KNOWN = 5;
    private static final int MOST_VISITS = 20, MOST_PLANNED = 6, MOST_CHANCED = 5;
    private static final int MOST_READINGS = 8;
    private static final int SHEETS = 4, LANES = 3, MOST_CELLS = 60;

    private final Sheet[] sheets;
    private final Court heads;
    private final Hall hall;
    private final Readings readings;
    private final int[] row;
    private int told;
    private int traced;
    private int latestFault;

    public FaceGlass() {
        sheets = new Sheet[SHEETS];
        for (int k = 0; k < SHEETS; k++) {
            sheets[k] = new Sheet();
        }
        heads = new Court();
        hall = new Hall();
        readings = new Readings();
        row = new int[MOST_VISITS];
    }

    // ---- 1 the court

    public int court(int sheet, int lane, int i, int n) {
        int trouble = noted(troubleOfCells(sheet, lane, i, n));
        if (trouble != 0) {
            return trouble;
        }
        int firstFault = firstFault(sheets[sheet], i, n);
        if (firstFault != NONE) {
            return WRONG_FROM - firstFault;
        }
        heads.gather(sheets[sheet], i, (n - 1) / CODES_OF_HEAD);
        readings.count = 0;
        return heads.count;
    }

    public int ofHead(int p, int what) {
        if (!heads.has(p)) {
            return UNKNOWN;
        }
        switch (what) {
            case 0: return heads.kind[p];
            case 1: return heads.wear[p];
            case 2: return heads.known[p];
            case 3: return lasting(heads.kind[p], heads.wear[p]);
            default: return OUTSIDE;
        }
    }

    public int wear(int p, int v) {
        if (!heads.has(p)) {
            return UNKNOWN;
        }
        if (v < 1 || v > MOST_WEAR) {
            return OUTSIDE;
        }
        int was = heads.wear[p];
        heads.wear[p] = v;
        return was;
    }

    public int knows(int p, int v) {
        if (!heads.has(p)) {
            return UNKNOWN;
        }
        if (v < 0 || v > MOST_KNOWN) {
            return OUTSIDE;
        }
        int was = heads.known[p];
        heads.known[p] = v;
        return was;
    }

    // ---- 2 visits

    public int visits(int sheet, int lane, int i, int n, int what) {
        int trouble = noted(troubleOfVisits(sheet, lane, i, n, isQuestion(what)));
        if (trouble != 0) {
            return trouble;
        }
        int firstWrong = firstWrong();
        if (what == 1) {
            return firstWrong;
        }
        if (firstWrong != NONE) {
            return WRONG_FROM - firstWrong;
        }
        return what < 10 ? answerOfHall(what) : answerOfHead(what / 10, what % 10);
    }

    // ---- 3 plans

    /**
     * No search is needed: at the beginning the MASK is on its own HEAD alone, which has to bring it
     * to the glass before p can take it, and every MASK can be TAKEN at least once.
     */
    public int plan(int p, int face, int k) {
        if (!heads.has(p) || !heads.has(face)) {
            return UNKNOWN;
        }
        if (k < -1 || k >= MOST_PLANNED) {
            return OUTSIDE;
        }
        if (k == -1) {
            return p == face ? 0 : 2;
        }
        if (p == face || k > 1) {
            return NONE;
        }
        return k == 0 ? face : p;
    }

    // ---- 4 who wore what

    public int reading(int t, int p, int face) {
        if (!heads.has(p) || (face != NONE && !heads.has(face))) {
            return UNKNOWN;
        }
        if (t < 0 || t > MOST_VISITS) {
            return OUTSIDE;
        }
        if (readings.count >= MOST_READINGS) {
            return FULL;
        }
        return readings.add(t, p, face);
    }

    public int back(int k) {
        if (k < 0 || k > readings.count) {
            return OUTSIDE;
        }
        readings.count -= k;
        return readings.count;
    }

    public int who(int t, int sheet, int lane, int i, int n) {
        int trouble = noted(troubleOfVisits(sheet, lane, i, n, t >= 0 && t < n));
        if (trouble != 0) {
            return trouble;
        }
        int set = 0;
        for (int q = 0; q < heads.count; q++) {
            row[t] = q;
            hall.open(heads);
            set |= bitIfAllSo(q);
        }
        return set;
    }

    public int kinds(int p, int sheet, int lane, int i, int n) {
        int trouble = noted(troubleOfOne(p, sheet, lane, i, n));
        if (trouble != 0) {
            return trouble;
        }
        int set = 0;
        for (int kind = 0; kind < KINDS; kind++) {
            hall.open(heads);
            hall.lasts[p] = lasting(kind, heads.wear[p]);
            set |= bitIfAllSo(kind);
        }
        return set;
    }

    public int wears(int p, int sheet, int lane, int i, int n) {
        int trouble = noted(troubleOfOne(p, sheet, lane, i, n));
        if (trouble != 0) {
            return trouble;
        }
        int set = 0;
        for (int v = 1; v <= MOST_WEAR; v++) {
            hall.open(heads);
            hall.lasts[p] = lasting(heads.kind[p], v);
            set |= bitIfAllSo(v);
        }
        return set;
    }

    public long odds(int p, int face, int n, int which) {
        if (!heads.has(p) || !heads.has(face)) {
            return LOST;
        }
        if (n < 0 || n > MOST_CHANCED || which < 0 || which > 1) {
            return LOST;
        }
        int all = 1;
        for (int v = 0; v < n; v++) {
            all *= heads.count;
        }
        hall.open(heads);
        int good = rowsTo(hall, p, face, n);
        int shared = greatestDivisor(good, all);
        return (which == 0 ? good : all) / shared;
    }

    // ---- 5 sheets, parts

    public int sheet(int k, int lane, int n) {
        int trouble = noted(troubleOfNew(k, lane, n));
        if (trouble != 0) {
            return trouble;
        }
        sheets[k].renew(lane, n);
        return 1;
    }

    public int lose(int k) {
        if (!isSheet(k)) {
            return UNKNOWN;
        }
        int had = sheets[k].isNothing() ? 0 : 1;
        sheets[k].length = NONE;
        return had;
    }

    public int put(int k, int i, int v) {
        int trouble = noted(troubleOfPut(k, i));
        if (trouble != 0) {
            return trouble;
        }
        sheets[k].cells[i] = cut(v, sheets[k].lane);
        return 1;
    }

    public long cell(int k, int i, int lane) {
        int trouble = noted(troubleOfCells(k, lane, i, 1));
        return trouble != 0 ? LOST : sheets[k].cells[i];
    }

    public int copy(int k, int i, int other, int j, int n) {
        int trouble = noted(troubleOfCopy(k, i, other, j, n));
        if (trouble != 0) {
            return trouble;
        }
        System.arraycopy(sheets[k].cells, i, sheets[other].cells, j, n);
        return n;
    }

    public int tell(int p) {
        if (!heads.has(p)) {
            return UNKNOWN;
        }
        switch (heads.kind[p]) {
            case SPY: return spysTelling(p);
            case LORD: return lordsTelling(p);
            default: return headsTelling(p);
        }
    }

    public int greet(int p) {
        if (!heads.has(p)) {
            return UNKNOWN;
        }
        if (heads.kind[p] == SPY) {
            leaveTrace(5);
            return 90;
        }
        leaveTrace(4);
        return p;
    }

    public int as(int p, int kind) {
        return noted(answerOfKind(p, kind));
    }

    public int trace() {
        return traced;
    }

    public int fault() {
        return latestFault;
    }

    public int many(int what) {
        switch (what) {
            case 0: return heads.count;
            case 1: return readings.count;
            default: return OUTSIDE;
        }
    }

    // ---- refusals and faults: 0, or the answer of the first that is come to

    /** Every call that names FAULTS comes through here, as fault() tells of the latest of them. */
    private int noted(int answer) {
        latestFault = answer < FAULTS_FROM ? FAULTS_FROM - answer : 0;
        return answer;
    }

    private int troubleOfCells(int sheet, int lane, int i, int n) {
        if (!isSheet(sheet)) {
            return UNKNOWN;
        }
        if (!isLane(lane)) {
            return OUTSIDE;
        }
        return sheets[sheet].faultOfCells(lane, i, n);
    }

    /** Takes the VISITS into the row, too, if there is no trouble. */
    private int troubleOfVisits(int sheet, int lane, int i, int n, boolean othersFit) {
        if (isSheet(sheet) && (n < 0 || n > MOST_VISITS || !othersFit)) {
            return OUTSIDE;
        }
        int trouble = troubleOfCells(sheet, lane, i, n);
        if (trouble != 0) {
            return trouble;
        }
        if (heads.count == 0) {
            return STATE;
        }
        return takeRow(sheets[sheet], i, n) ? 0 : UNKNOWN;
    }

    private int troubleOfOne(int p, int sheet, int lane, int i, int n) {
        return heads.has(p) ? troubleOfVisits(sheet, lane, i, n, true) : UNKNOWN;
    }

    private int troubleOfNew(int k, int lane, int n) {
        if (!isSheet(k)) {
            return UNKNOWN;
        }
        if (!isLane(lane) || n > MOST_CELLS) {
            return OUTSIDE;
        }
        return n < 0 ? SIZE_FAULT : 0;
    }

    private int troubleOfPut(int k, int i) {
        if (!isSheet(k)) {
            return UNKNOWN;
        }
        if (sheets[k].isNothing()) {
            return NULL_FAULT;
        }
        return sheets[k].hasCells(i, 1) ? 0 : INDEX_FAULT;
    }

    private int troubleOfCopy(int k, int i, int other, int j, int n) {
        if (!isSheet(k) || !isSheet(other)) {
            return UNKNOWN;
        }
        if (sheets[k].isNothing() || sheets[other].isNothing()) {
            return NULL_FAULT;
        }
        if (sheets[k].lane != sheets[other].lane) {
            return CAST_FAULT;
        }
        return sheets[k].hasCells(i, n) && sheets[other].hasCells(j, n) ? 0 : INDEX_FAULT;
    }

    private int answerOfKind(int p, int kind) {
        if (!heads.has(p)) {
            return UNKNOWN;
        }
        if (kind < 0 || kind >= KINDS) {
            return OUTSIDE;
        }
        return heads.kind[p] >= kind ? 1 : CAST_FAULT;
    }

    private static boolean isSheet(int k) {
        return k >= 0 && k < SHEETS;
    }

    private static boolean isLane(int lane) {
        return lane >= 0 && lane < LANES;
    }

    private static boolean isQuestion(int what) {
        return what >= 0 && what < 40 && what % 10 < MOST_HEADS;
    }

    // ---- texts

    private static int firstFault(Sheet text, int from, int n) {
        for (int place = 0; place < n; place++) {
            if (!goesOn(place, text.cells[from + place])) {
                return place;
            }
        }
        boolean whole = n > FEWEST_HEADS * CODES_OF_HEAD && (n - 1) % CODES_OF_HEAD == 0;
        return whole ? NONE : n;
    }

    private static boolean goesOn(int place, int code) {
        if (place == 0) {
            return code == 'm';
        }
        if (place > MOST_HEADS * CODES_OF_HEAD) {
            return false;
        }
        switch ((place - 1) % CODES_OF_HEAD) {
            case 0: return code == ';';
            case 1: return code == 'h' || code == 'l' || code == 's';
            case 2: return code >= '1' && code <= '9';
            default: return code >= '0' && code <= '5';
        }
    }

    private static int kindOfLetter(int code) {
        if (code == 's') {
            return SPY;
        }
        return code == 'l' ? LORD : 0;
    }

    private static int lasting(int kind, int wear) {
        int ofLord = wear + 1;
        if (kind == SPY) {
            return 2 * ofLord;
        }
        return kind == LORD ? ofLord : wear;
    }

    // ---- visits that are told

    private boolean takeRow(Sheet sheet, int from, int n) {
        for (int v = 0; v < n; v++) {
            int p = sheet.cells[from + v];
            if (!heads.has(p)) {
                return false;
            }
            row[v] = p;
        }
        told = n;
        return true;
    }

    private int firstWrong() {
        hall.open(heads);
        for (int v = 0; v < told; v++) {
            if (!hall.receives(row[v])) {
                return v;
            }
        }
        return NONE;
    }

    private int answerOfHall(int what) {
        switch (what) {
            case 0: return hall.ownWearers();
            case 2: return hall.visitsHome();
            case 3: return hall.glass;
            default: return hall.mostTaken();
        }
    }

    private int answerOfHead(int what, int p) {
        if (!heads.has(p)) {
            return NONE;
        }
        switch (what) {
            case 1: return hall.worn[p];
            case 2: return hall.taken[p];
            default: return hall.fooling(p, heads.known[p]);
        }
    }

    // ---- readings and odds

    private int bitIfAllSo(int k) {
        return allSo() ? 1 << k : 0;
    }

    /** From the hall as it was opened on, with the LASTS that it has. */
    private boolean allSo() {
        if (readings.reachBeyond(told) || !readings.areSo(0, hall)) {
            return false;
        }
        for (int v = 0; v < told; v++) {
            if (!hall.receives(row[v]) || !readings.areSo(v + 1, hall)) {
                return false;
            }
        }
        return true;
    }

    private static int rowsTo(Hall hall, int p, int face, int left) {
        if (left <= 0) {
            return hall.worn[p] == face ? 1 : 0;
        }
        int rows = 0;
        for (int q = 0; q < hall.heads; q++) {
            if (hall.receives(q)) {
                rows += rowsTo(hall, p, face, left - 1);
                hall.takesBack(q);
            }
        }
        return rows;
    }

    /** Of numbers of which b is above 0: the steps' bound is far above what ints can need. */
    private static int greatestDivisor(int a, int b) {
        int divisor = b;
        int rest = a;
        for (int step = 0; step < 100 && rest != 0; step++) {
            int next = divisor % rest;
            divisor = rest;
            rest = next;
        }
        return Math.max(divisor, 1);
    }

    // ---- telling

    private void leaveTrace(int number) {
        traced = 31 * traced + number;
    }

    private int headsTelling(int p) {
        leaveTrace(1);
        return heads.wear[p];
    }

    private int lordsTelling(int p) {
        leaveTrace(2);
        return headsTelling(p) + 100;
    }

    private int spysTelling(int p) {
        leaveTrace(3);
        int asLord = lordsTelling(p);
        return asLord + headsTelling(p);
    }

    private static int cut(int v, int lane) {
        if (lane == 0) {
            return (byte) v;
        }
        return lane == 1 ? (short) v : v;
    }

    /** One row serves for all that a SHEET ever has, as what a run makes is counted. */
    private static final class Sheet {
        private final int[] cells = new int[MOST_CELLS];
        private int lane;
        private int length = NONE;

        boolean isNothing() {
            return length < 0;
        }

        void renew(int newLane, int newLength) {
            lane = newLane;
            length = newLength;
            for (int i = 0; i < MOST_CELLS; i++) {
                cells[i] = 0;
            }
        }

        /** Written without i + n, which may wrap. */
        boolean hasCells(int i, int n) {
            return i >= 0 && n >= 0 && i <= length && n <= length - i;
        }

        int faultOfCells(int asLane, int i, int n) {
            if (isNothing()) {
                return NULL_FAULT;
            }
            if (lane != asLane) {
                return CAST_FAULT;
            }
            if (n < 0) {
                return SIZE_FAULT;
            }
            return hasCells(i, n) ? 0 : INDEX_FAULT;
        }
    }

    private static final class Court {
        private final int[] kind = new int[MOST_HEADS];
        private final int[] wear = new int[MOST_HEADS];
        private final int[] known = new int[MOST_HEADS];
        private int count;

        /** There are as many MASKS as HEADS, so this answers for both. */
        boolean has(int p) {
            return p >= 0 && p < count;
        }

        /** Of a TEXT that has no FIRST FAULT. */
        void gather(Sheet text, int from, int many) {
            count = Math.min(many, MOST_HEADS);
            for (int p = 0; p < count; p++) {
                int letter = from + p * CODES_OF_HEAD + 2;
                kind[p] = kindOfLetter(text.cells[letter]);
                wear[p] = text.cells[letter + 1] - '0';
                known[p] = text.cells[letter + 2] - '0';
            }
        }
    }

    /** How it stands behind some VISITS; LASTS are its own, as a question may put others in their place. */
    private static final class Hall {
        private final int[] worn = new int[MOST_HEADS];
        private final int[] taken = new int[MOST_HEADS];
        private final int[] lasts = new int[MOST_HEADS];
        private int heads;
        private int glass = NONE;

        void open(Court court) {
            heads = court.count;
            glass = NONE;
            for (int p = 0; p < heads; p++) {
                worn[p] = p;
                taken[p] = 0;
                lasts[p] = lasting(court.kind[p], court.wear[p]);
            }
        }

        /** False: the VISIT can't be, and nothing has changed. */
        boolean receives(int p) {
            if (glass != NONE) {
                if (taken[glass] >= lasts[glass]) {
                    return false;
                }
                taken[glass]++;
            }
            changePlaces(p);
            return true;
        }

        /** The latest VISIT, which was p's. */
        void takesBack(int p) {
            changePlaces(p);
            if (glass != NONE) {
                taken[glass]--;
            }
        }

        private void changePlaces(int p) {
            int left = worn[p];
            worn[p] = glass;
            glass = left;
        }

        int ownWearers() {
            int set = 0;
            for (int p = 0; p < heads; p++) {
                if (worn[p] == p) {
                    set |= 1 << p;
                }
            }
            return set;
        }

        /**
         * Brings all home. A VISIT brings at most one MASK home, and only that in the glass; while the
         * glass is empty one VISIT has to fill it, once for each ring of HEADS that wear one another's.
         * Each VISIT but these brings one home, so the bound on them is never come to.
         */
        int visitsHome() {
            for (int count = 0; count < 2 * MOST_HEADS; count++) {
                int next = glass != NONE ? glass : firstAstray();
                if (next == NONE) {
                    return count;
                }
                changePlaces(next);
            }
            return 2 * MOST_HEADS;
        }

        private int firstAstray() {
            for (int p = 0; p < heads; p++) {
                if (worn[p] != p) {
                    return p;
                }
            }
            return NONE;
        }

        int mostTaken() {
            int most = NONE;
            for (int p = 0; p < heads; p++) {
                if (taken[p] > (most == NONE ? 0 : taken[most])) {
                    most = p;
                }
            }
            return most;
        }

        int fooling(int p, int known) {
            int count = 0;
            for (int q = 0; q < heads; q++) {
                if (q != p && q != known && worn[q] != NONE && worn[q] != q) {
                    count++;
                }
            }
            return count;
        }
    }

    private static final class Readings {
        private final int[] time = new int[MOST_READINGS];
        private final int[] head = new int[MOST_READINGS];
        private final int[] face = new int[MOST_READINGS];
        private int count;

        /** Its caller has seen that there is a place left. */
        int add(int t, int p, int mask) {
            time[count] = t;
            head[count] = p;
            face[count] = mask;
            return count++;
        }

        boolean reachBeyond(int visits) {
            for (int r = 0; r < count; r++) {
                if (time[r] > visits) {
                    return true;
                }
            }
            return false;
        }

        /** Those of time t. */
        boolean areSo(int t, Hall hall) {
            for (int r = 0; r < count; r++) {
                if (time[r] == t && hall.worn[head[r]] != face[r]) {
                    return false;
                }
            }
            return true;
        }
    }
}
