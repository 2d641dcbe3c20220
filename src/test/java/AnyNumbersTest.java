/** Every call with any numbers, the least and the most of ints among them, answers as the Oracle does. */
public final class AnyNumbersTest {
    private static final int[] NUMBERS = {Integer.MIN_VALUE, -101, -9, -1, 0, 1, 2, 4, 5, 21, 61, Integer.MAX_VALUE};
    private static final int MOST_CALLS = 400;
    private static final Check check = new Check("AnyNumbersTest");

    private FaceGlass glass;
    private Oracle oracle;
    private int calls;
    private final int scene;

    private AnyNumbersTest(int scene) {
        this.scene = scene;
    }

    public static void main(String[] args) {
        for (int scene = 0; scene < 3; scene++) {
            for (String name : Calls.NAMES) {
                AnyNumbersTest test = new AnyNumbersTest(scene);
                test.begin();
                test.each(name, new int[Calls.numbers(name)], 0);
            }
        }
        check.end();
    }

    /** Nothing at all, SHEETS without a COURT, or a hall. */
    private void begin() {
        glass = scene == 0 ? new FaceGlass() : scene == 1 ? Scene.withoutCourt() : Scene.hall();
        oracle = new Oracle();
        calls = 0;
        if (scene == 0) {
            return;
        }
        text();
        if (scene == 2) {
            oracle.call("court", 0, 0, 0, Scene.TEXT.length());
        }
        oracle.call("sheet", 1, 2, Scene.ROW.length);
        for (int i = 0; i < Scene.ROW.length; i++) {
            oracle.call("put", 1, i, Scene.ROW[i]);
        }
        oracle.call("sheet", 2, 1, 0);
        oracle.call("tell", 2);
        oracle.call("reading", 1, 0, FaceGlass.NONE);
        oracle.call("reading", 2, 2, 0);
    }

    private void text() {
        oracle.call("sheet", 0, 0, Scene.TEXT.length());
        for (int i = 0; i < Scene.TEXT.length(); i++) {
            oracle.call("put", 0, i, Scene.TEXT.charAt(i));
        }
    }

    private void each(String name, int[] a, int from) {
        if (from == a.length) {
            same(name, a);
            same("fault");
            same("trace");
            return;
        }
        for (int number : NUMBERS) {
            a[from] = number;
            each(name, a, from + 1);
        }
    }

    private void same(String name, int... a) {
        if (calls >= MOST_CALLS) {
            begin();
        }
        calls++;
        long want = oracle.call(name, a);
        long got = Calls.on(glass, name, a);
        check.due(got == want ? name : Calls.told(name, a), got, want);
    }
}
