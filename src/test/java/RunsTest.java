import java.util.Random;

/** Runs of calls by chance (the same each time), answered by FaceGlass and by the Oracle. */
public final class RunsTest {
    private static final String[] CALLS = {"court", "ofHead", "wear", "knows", "visits", "visits", "visits", "plan",
        "reading", "reading", "back", "who", "who", "kinds", "wears", "odds", "sheet", "lose", "put", "put", "cell",
        "copy", "tell", "greet", "as", "trace", "fault", "fault", "many", "TEXT", "ROW", "ROW", "SEEN"};
    private static final Check check = new Check("RunsTest");

    private final Random random;
    private final FaceGlass glass = new FaceGlass();
    private final Oracle oracle = new Oracle();
    private final StringBuilder told = new StringBuilder();
    private int[] lanes = {0, 0, 0, 0};
    private int[] lengths = {0, 0, 0, 0};
    private int left = 512;

    private RunsTest(long seed) {
        random = new Random(seed);
        told.append("seed ").append(seed).append(": ");
    }

    public static void main(String[] args) {
        for (long seed = 0; seed < 3000; seed++) {
            new RunsTest(seed).run();
            if (!check.isClean()) {
                break;
            }
        }
        check.end();
    }

    private void run() {
        while (left > 0 && check.isClean()) {
            String name = CALLS[random.nextInt(CALLS.length)];
            switch (name) {
                case "TEXT": text(); break;
                case "ROW": visitsRow(); break;
                case "SEEN": seen(); break;
                default: same(name, arguments(name)); break;
            }
        }
    }

    private int near(int from, int to) {
        int chance = random.nextInt(40);
        if (chance == 0) {
            int[] far = {Integer.MIN_VALUE, Integer.MAX_VALUE, -9, from - 1, to + 1, -1};
            return far[random.nextInt(far.length)];
        }
        return from + random.nextInt(to - from + 1) + (chance == 1 ? 1 : chance == 2 ? -1 : 0);
    }

    private int lane(int k) {
        return k >= 0 && k < 4 && random.nextInt(20) != 0 ? lanes[k] : near(0, 2);
    }

    private int many(int k) {
        return k >= 0 && k < 4 && random.nextInt(10) != 0 ? lengths[k] : near(0, 20);
    }

    private int[] arguments(String name) {
        int k = near(0, 3);
        int other = near(0, 3);
        int p = near(0, 4);
        int from = random.nextInt(4) == 0 ? near(0, 3) : 0;
        switch (name) {
            case "court": return new int[] {k, lane(k), from, many(k)};
            case "ofHead": return new int[] {p, near(0, 3)};
            case "wear": return new int[] {p, near(1, random.nextBoolean() ? 3 : 9)};
            case "knows": return new int[] {p, near(0, 5)};
            case "visits": return new int[] {k, lane(k), from, many(k), near(0, 4) + 10 * random.nextInt(4)};
            case "plan": return new int[] {p, near(0, 4), near(-1, 5)};
            case "reading": return new int[] {near(0, random.nextBoolean() ? 4 : 20), p, face()};
            case "back": return new int[] {near(0, 3)};
            case "who": return new int[] {near(0, 10), k, lane(k), from, many(k)};
            case "kinds":
            case "wears": return new int[] {p, k, lane(k), from, many(k)};
            case "odds": return new int[] {p, near(0, 4), random.nextInt(8) == 0 ? near(0, 5) : near(0, 3), near(0, 1)};
            case "sheet": return new int[] {k, near(0, 2), random.nextBoolean() ? near(0, 60) : near(0, 8)};
            case "put": return new int[] {k, near(0, 10), random.nextBoolean() ? near(0, 4) : random.nextInt()};
            case "cell": return new int[] {k, near(0, 10), lane(k)};
            case "copy": return new int[] {k, near(0, 4), other, near(0, 4), near(0, 6)};
            case "as": return new int[] {p, near(0, 2)};
            case "many": return new int[] {near(0, 1)};
            case "lose": return new int[] {random.nextInt(4) == 0 ? k : 3};
            case "trace":
            case "fault": return new int[0];
            default: return new int[] {p};
        }
    }

    private int face() {
        return random.nextInt(4) == 0 ? FaceGlass.NONE : near(0, 4);
    }

    private void text() {
        StringBuilder text = new StringBuilder("m");
        int heads = 1 + random.nextInt(6);
        if (random.nextInt(3) != 0) {
            heads = 2 + random.nextInt(4);
        }
        for (int p = 0; p < heads; p++) {
            int wear = random.nextBoolean() ? 1 : 1 + random.nextInt(9);
            text.append(';').append("hls".charAt(random.nextInt(3))).append(wear).append(random.nextInt(6));
        }
        if (random.nextInt(5) == 0) {
            text.setCharAt(random.nextInt(text.length()), "m;hlsx0123456789".charAt(random.nextInt(16)));
        }
        int[] numbers = new int[text.length()];
        for (int i = 0; i < numbers.length; i++) {
            numbers[i] = text.charAt(i);
        }
        int k = random.nextInt(2);
        row(k, numbers);
        int n = random.nextInt(8) == 0 ? random.nextInt(numbers.length + 1) : numbers.length;
        same("court", k, lanes[k], 0, n);
        same("fault");
    }

    private void visitsRow() {
        int heads = Math.max((int) oracle.call("many", 0), 2);
        int few = random.nextBoolean() ? 2 : heads;
        int[] numbers = new int[random.nextInt(22)];
        for (int i = 0; i < numbers.length; i++) {
            numbers[i] = random.nextInt(few);
        }
        row(2 + random.nextInt(2), numbers);
    }

    private void row(int k, int[] numbers) {
        lanes[k] = random.nextInt(3);
        lengths[k] = numbers.length;
        same("sheet", k, lanes[k], numbers.length);
        for (int i = 0; i < numbers.length; i++) {
            same("put", k, i, numbers[i]);
        }
    }

    /** A reading that is so by the visits that a sheet has, and what follows from it. */
    private void seen() {
        int k = 2 + random.nextInt(2);
        int n = lengths[k];
        int t = random.nextInt(n + 1);
        int p = random.nextInt(5);
        long face = oracle.call("visits", k, lanes[k], 0, t, 10 + p);
        if (face < 0 && face != FaceGlass.NONE) {
            face = 0;
        }
        same("visits", k, lanes[k], 0, t, 10 + p);
        same("reading", t, p, (int) face);
        same("who", random.nextInt(n + 1), k, lanes[k], 0, n);
        same("kinds", random.nextInt(5), k, lanes[k], 0, n);
        same("wears", random.nextInt(5), k, lanes[k], 0, n);
    }

    private void same(String name, int... a) {
        if (left-- <= 0) {
            return;
        }
        told.append(Calls.told(name, a)).append(' ');
        long want = oracle.call(name, a);
        long got = Calls.on(glass, name, a);
        check.due(got == want ? name : told.toString(), got, want);
    }
}
