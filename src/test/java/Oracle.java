import java.util.ArrayDeque;
import java.util.ArrayList;
import java.util.Arrays;
import java.util.Deque;
import java.util.HashMap;
import java.util.List;
import java.util.Map;
import java.util.regex.Pattern;

/**
 * The document once more, in another way: rows are the machine's own and so are their faults, texts
 * are matched by expressions, and what is asked of rows of VISITS is found by going through them all.
 */
final class Oracle {
    static final int UNKNOWN = -1, OUTSIDE = -2, STATE = -3, FULL = -4, NONE = -9;
    static final long LOST = Long.MIN_VALUE;

    /** A refusal or a fault, as it is answered. */
    private static final class Refused extends RuntimeException {
        private static final long serialVersionUID = 1;
        final int answer;

        Refused(int answer) {
            super(null, null, false, false);
            this.answer = answer;
        }
    }

    private interface Body {
        long run();
    }

    private static class Head {
        int wear;
        int knows;

        int lasts() {
            return wear;
        }

        int kind() {
            return 0;
        }
    }

    private static class Lord extends Head {
        @Override int lasts() {
            return super.lasts() + 1;
        }

        @Override int kind() {
            return 1;
        }
    }

    private static final class Spy extends Lord {
        @Override int lasts() {
            return 2 * super.lasts();
        }

        @Override int kind() {
            return 2;
        }
    }

    private final Object[] sheets = new Object[4];
    private List<Head> heads = new ArrayList<>();
    private final List<int[]> readings = new ArrayList<>();
    private int trace = 0;
    private int fault = 0;

    static Oracle withCourt(String text) {
        Oracle oracle = new Oracle();
        oracle.call("sheet", 0, 0, text.length());
        for (int i = 0; i < text.length(); i++) {
            oracle.call("put", 0, i, text.charAt(i));
        }
        oracle.call("court", 0, 0, 0, text.length());
        return oracle;
    }

    long call(String name, int... a) {
        switch (name) {
            case "court": return faulty(() -> court(a[0], a[1], a[2], a[3]));
            case "ofHead": return plain(() -> ofHead(a[0], a[1]));
            case "wear": return plain(() -> wear(a[0], a[1]));
            case "knows": return plain(() -> knows(a[0], a[1]));
            case "visits": return faulty(() -> visits(a[0], a[1], a[2], a[3], a[4]));
            case "plan": return plain(() -> plan(a[0], a[1], a[2]));
            case "reading": return plain(() -> reading(a[0], a[1], a[2]));
            case "back": return plain(() -> back(a[0]));
            case "who": return faulty(() -> who(a[0], a[1], a[2], a[3], a[4]));
            case "kinds": return faulty(() -> kinds(a[0], a[1], a[2], a[3], a[4]));
            case "wears": return faulty(() -> wears(a[0], a[1], a[2], a[3], a[4]));
            case "odds": return lost(plain(() -> odds(a[0], a[1], a[2], a[3])));
            case "sheet": return faulty(() -> sheet(a[0], a[1], a[2]));
            case "lose": return plain(() -> lose(a[0]));
            case "put": return faulty(() -> put(a[0], a[1], a[2]));
            case "cell": return cellOrLost(a[0], a[1], a[2]);
            case "copy": return faulty(() -> copy(a[0], a[1], a[2], a[3], a[4]));
            case "tell": return plain(() -> tell(a[0]));
            case "greet": return plain(() -> greet(a[0]));
            case "as": return faulty(() -> as(a[0], a[1]));
            case "trace": return trace;
            case "fault": return fault;
            case "many": return plain(() -> many(a[0]));
            default: throw new IllegalArgumentException(name);
        }
    }

    private static long lost(long answer) {
        return answer < 0 ? LOST : answer;
    }

    private static long plain(Body body) {
        try {
            return body.run();
        } catch (Refused refused) {
            return refused.answer;
        }
    }

    private long faulty(Body body) {
        fault = 0;
        try {
            return plain(body);
        } catch (NullPointerException e) {
            fault = 1;
        } catch (ClassCastException | ArrayStoreException e) {
            fault = 2;
        } catch (IndexOutOfBoundsException e) {
            fault = 3;
        } catch (NegativeArraySizeException e) {
            fault = 4;
        }
        return -10 - fault;
    }

    private long cellOrLost(int k, int i, int lane) {
        boolean[] come = new boolean[1];
        long answer = faulty(() -> {
            long v = cell(k, i, lane);
            come[0] = true;
            return v;
        });
        return come[0] ? answer : LOST;
    }

    private static void refuseIf(boolean so, int answer) {
        if (so) {
            throw new Refused(answer);
        }
    }

    private static boolean in(int v, int from, int to) {
        return from <= v && v <= to;
    }

    private void knownHead(int p) {
        refuseIf(!in(p, 0, heads.size() - 1), UNKNOWN);
    }

    private static void knownSheet(int k) {
        refuseIf(!in(k, 0, 3), UNKNOWN);
    }

    // ---- rows

    private static int at(Object row, int i) {
        return row instanceof byte[] b ? b[i] : row instanceof short[] s ? s[i] : ((int[]) row)[i];
    }

    private static int length(Object row) {
        return java.lang.reflect.Array.getLength(row);
    }

    private static Object asLane(Object row, int lane) {
        return lane == 0 ? (byte[]) row : lane == 1 ? (short[]) row : (int[]) row;
    }

    private static int[] cells(Object row, int i, int n) {
        length(row);
        int[] taken = new int[Math.min(n, 61)];
        if (i < 0 || i > length(row)) {
            throw new IndexOutOfBoundsException();
        }
        for (int c = 0; c < taken.length; c++) {
            taken[c] = at(row, i + c);
        }
        return taken;
    }

    private long sheet(int k, int lane, int n) {
        knownSheet(k);
        refuseIf(!in(lane, 0, 2) || n > 60, OUTSIDE);
        sheets[k] = lane == 0 ? new byte[n] : lane == 1 ? new short[n] : new int[n];
        return 1;
    }

    private long lose(int k) {
        knownSheet(k);
        boolean had = sheets[k] != null;
        sheets[k] = null;
        return had ? 1 : 0;
    }

    private long put(int k, int i, int v) {
        knownSheet(k);
        if (sheets[k] instanceof byte[] b) {
            b[i] = (byte) v;
        } else if (sheets[k] instanceof short[] s) {
            s[i] = (short) v;
        } else {
            ((int[]) sheets[k])[i] = v;
        }
        return 1;
    }

    private long cell(int k, int i, int lane) {
        knownSheet(k);
        refuseIf(!in(lane, 0, 2), OUTSIDE);
        return at(asLane(sheets[k], lane), i);
    }

    private long copy(int k, int i, int other, int j, int n) {
        knownSheet(k);
        knownSheet(other);
        System.arraycopy(sheets[k], i, sheets[other], j, n);
        return n;
    }

    // ---- the court

    private static final Pattern WHOLE = Pattern.compile("m(;[hls][1-9][0-5]){2,5}");

    private static boolean canGoOn(String text) {
        // What can go on is the beginning of a whole text: of some end of the longest one.
        String end = "m;h10;h10;h10;h10;h10".substring(Math.min(text.length(), 21));
        return text.length() <= 21 && WHOLE.matcher(text + end).matches();
    }

    private long court(int sheet, int lane, int i, int n) {
        knownSheet(sheet);
        refuseIf(!in(lane, 0, 2), OUTSIDE);
        Object row = asLane(sheets[sheet], lane);
        StringBuilder text = new StringBuilder();
        for (int code : cells(row, i, n)) {
            text.append(in(code, 1, 127) ? (char) code : '?');
        }
        for (int c = 1; c <= n; c++) {
            if (!canGoOn(text.substring(0, c))) {
                return -100 - (c - 1);
            }
        }
        if (!WHOLE.matcher(text).matches()) {
            return -100 - n;
        }
        heads = new ArrayList<>();
        for (String part : text.substring(2).split(";")) {
            Head head = made("hls".indexOf(part.charAt(0)));
            head.wear = part.charAt(1) - '0';
            head.knows = part.charAt(2) - '0';
            heads.add(head);
        }
        readings.clear();
        return heads.size();
    }

    private static Head made(int kind) {
        return kind == 0 ? new Head() : kind == 1 ? new Lord() : new Spy();
    }

    private long ofHead(int p, int what) {
        knownHead(p);
        refuseIf(!in(what, 0, 3), OUTSIDE);
        Head head = heads.get(p);
        return new int[] {head.kind(), head.wear, head.knows, head.lasts()}[what];
    }

    private long wear(int p, int v) {
        knownHead(p);
        refuseIf(!in(v, 1, 9), OUTSIDE);
        int was = heads.get(p).wear;
        heads.get(p).wear = v;
        return was;
    }

    private long knows(int p, int v) {
        knownHead(p);
        refuseIf(!in(v, 0, 5), OUTSIDE);
        int was = heads.get(p).knows;
        heads.get(p).knows = v;
        return was;
    }

    // ---- visits

    /** Places: what each head wears, and the glass last; NONE for nothing. */
    private int[] beginning() {
        int[] places = new int[heads.size() + 1];
        for (int p = 0; p < heads.size(); p++) {
            places[p] = p;
        }
        places[heads.size()] = NONE;
        return places;
    }

    private static int[] visited(int[] places, int p) {
        int[] next = places.clone();
        next[p] = places[places.length - 1];
        next[places.length - 1] = places[p];
        return next;
    }

    /** The places behind each visit that can be, those of the beginning first. */
    private List<int[]> walk(int[] row, List<Head> court) {
        List<int[]> behind = new ArrayList<>();
        behind.add(beginning());
        int[] left = new int[court.size()];
        for (int p = 0; p < left.length; p++) {
            left[p] = court.get(p).lasts();
        }
        for (int p : row) {
            int[] places = behind.get(behind.size() - 1);
            int mask = places[places.length - 1];
            if (mask != NONE && left[mask]-- == 0) {
                break;
            }
            behind.add(visited(places, p));
        }
        return behind;
    }

    private int[] toldVisits(int sheet, int lane, int i, int n, boolean othersFit) {
        knownSheet(sheet);
        refuseIf(!in(lane, 0, 2) || !in(n, 0, 20) || !othersFit, OUTSIDE);
        int[] row = cells(asLane(sheets[sheet], lane), i, n);
        refuseIf(heads.isEmpty(), STATE);
        for (int p : row) {
            knownHead(p);
        }
        return row;
    }

    private long visits(int sheet, int lane, int i, int n, int what) {
        boolean fits = in(what, 0, 4) || in(what, 10, 14) || in(what, 20, 24) || in(what, 30, 34);
        int[] row = toldVisits(sheet, lane, i, n, fits);
        List<int[]> behind = walk(row, heads);
        boolean wrong = behind.size() <= n;
        if (what == 1) {
            return wrong ? behind.size() - 1 : NONE;
        }
        if (wrong) {
            return -100 - (behind.size() - 1);
        }
        int[] places = behind.get(n);
        int many = heads.size();
        int[] taken = new int[many];
        for (int v = 0; v < n; v++) {
            int mask = behind.get(v)[many];
            if (mask != NONE) {
                taken[mask]++;
            }
        }
        int p = what % 10;
        if (what >= 10 && p >= many) {
            return NONE;
        }
        switch (what / 10) {
            case 1: return places[p];
            case 2: return taken[p];
            case 3: return fooled(places, p);
            default: break;
        }
        switch (what) {
            case 0: return own(places);
            case 2: return home(places);
            case 3: return places[many];
            default: return worn(taken);
        }
    }

    private long fooled(int[] places, int p) {
        int count = 0;
        for (int q = 0; q < heads.size(); q++) {
            boolean another = places[q] != NONE && places[q] != q;
            count += q != p && another && heads.get(p).knows != q ? 1 : 0;
        }
        return count;
    }

    private long own(int[] places) {
        long set = 0;
        for (int q = 0; q < heads.size(); q++) {
            set += places[q] == q ? 1L << q : 0;
        }
        return set;
    }

    private static long worn(int[] taken) {
        int most = Arrays.stream(taken).max().getAsInt();
        for (int mask = 0; mask < taken.length; mask++) {
            if (most > 0 && taken[mask] == most) {
                return mask;
            }
        }
        return NONE;
    }

    private long home(int[] from) {
        Map<String, Integer> far = new HashMap<>();
        Deque<int[]> open = new ArrayDeque<>();
        far.put(Arrays.toString(from), 0);
        open.add(from);
        String aim = Arrays.toString(beginning());
        while (!open.isEmpty()) {
            int[] places = open.remove();
            int steps = far.get(Arrays.toString(places));
            if (Arrays.toString(places).equals(aim)) {
                return steps;
            }
            for (int p = 0; p < heads.size(); p++) {
                int[] next = visited(places, p);
                if (far.putIfAbsent(Arrays.toString(next), steps + 1) == null) {
                    open.add(next);
                }
            }
        }
        throw new IllegalStateException();
    }

    // ---- plans and odds: all rows, one behind another

    private static int[] rowOf(int number, int n, int many) {
        int[] row = new int[n];
        for (int v = n - 1; v >= 0; v--) {
            row[v] = number % many;
            number /= many;
        }
        return row;
    }

    private static int power(int many, int n) {
        return n == 0 ? 1 : many * power(many, n - 1);
    }

    private boolean leadsTo(int[] row, int p, int face) {
        List<int[]> behind = walk(row, heads);
        return behind.size() == row.length + 1 && behind.get(row.length)[p] == face;
    }

    private long plan(int p, int face, int k) {
        knownHead(p);
        knownHead(face);
        refuseIf(!in(k, -1, 5), OUTSIDE);
        for (int n = 0; n <= 6; n++) {
            for (int number = 0; number < power(heads.size(), n); number++) {
                int[] row = rowOf(number, n, heads.size());
                if (leadsTo(row, p, face)) {
                    return k == -1 ? n : k < n ? row[k] : NONE;
                }
            }
        }
        return NONE;
    }

    private long odds(int p, int face, int n, int which) {
        knownHead(p);
        knownHead(face);
        refuseIf(!in(n, 0, 5) || !in(which, 0, 1), OUTSIDE);
        long all = power(heads.size(), n);
        long good = 0;
        for (int number = 0; number < all; number++) {
            good += leadsTo(rowOf(number, n, heads.size()), p, face) ? 1 : 0;
        }
        long shared = 1;
        for (long d = 2; d <= all; d++) {
            shared = good % d == 0 && all % d == 0 ? d : shared;
        }
        return (which == 0 ? good : all) / shared;
    }

    // ---- readings

    private long reading(int t, int p, int face) {
        knownHead(p);
        if (face != NONE) {
            knownHead(face);
        }
        refuseIf(!in(t, 0, 20), OUTSIDE);
        refuseIf(readings.size() == 8, FULL);
        readings.add(new int[] {t, p, face});
        return readings.size() - 1;
    }

    private long back(int k) {
        refuseIf(!in(k, 0, readings.size()), OUTSIDE);
        for (int c = 0; c < k; c++) {
            readings.remove(readings.size() - 1);
        }
        return readings.size();
    }

    private boolean allSo(int[] row, List<Head> court) {
        List<int[]> behind = walk(row, court);
        return behind.size() == row.length + 1
            && readings.stream().allMatch(r -> r[0] <= row.length && behind.get(r[0])[r[1]] == r[2]);
    }

    private long who(int t, int sheet, int lane, int i, int n) {
        int[] row = toldVisits(sheet, lane, i, n, in(t, 0, n - 1));
        long set = 0;
        for (int q = 0; q < heads.size(); q++) {
            int[] other = row.clone();
            other[t] = q;
            set |= allSo(other, heads) ? 1L << q : 0;
        }
        return set;
    }

    private List<Head> with(int p, int kind, int wear) {
        List<Head> court = new ArrayList<>(heads);
        Head head = made(kind);
        head.wear = wear;
        court.set(p, head);
        return court;
    }

    private long kinds(int p, int sheet, int lane, int i, int n) {
        knownHead(p);
        int[] row = toldVisits(sheet, lane, i, n, true);
        long set = 0;
        for (int kind = 0; kind < 3; kind++) {
            set |= allSo(row, with(p, kind, heads.get(p).wear)) ? 1L << kind : 0;
        }
        return set;
    }

    private long wears(int p, int sheet, int lane, int i, int n) {
        knownHead(p);
        int[] row = toldVisits(sheet, lane, i, n, true);
        long set = 0;
        for (int wear = 1; wear <= 9; wear++) {
            set |= allSo(row, with(p, heads.get(p).kind(), wear)) ? 1L << wear : 0;
        }
        return set;
    }

    // ---- parts

    private long tell(int p) {
        knownHead(p);
        Head head = heads.get(p);
        int[][] left = {{1}, {2, 1}, {3, 2, 1, 1}};
        for (int number : left[head.kind()]) {
            trace = 31 * trace + number;
        }
        return new int[] {head.wear, head.wear + 100, 2 * head.wear + 100}[head.kind()];
    }

    private long greet(int p) {
        knownHead(p);
        boolean spy = heads.get(p) instanceof Spy;
        trace = 31 * trace + (spy ? 5 : 4);
        return spy ? 90 : p;
    }

    private long as(int p, int kind) {
        knownHead(p);
        refuseIf(!in(kind, 0, 2), OUTSIDE);
        Class<?>[] classes = {Head.class, Lord.class, Spy.class};
        return classes[kind].cast(heads.get(p)) == null ? 0 : 1;
    }

    private long many(int what) {
        refuseIf(!in(what, 0, 1), OUTSIDE);
        return what == 0 ? heads.size() : readings.size();
    }
}
