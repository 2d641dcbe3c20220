import java.util.ArrayList;
import java.util.Arrays;
import java.util.List;

/**
 * The edges of one promise. Each call is made on an object of its own: its answer is looked at, then what
 * fault() tells behind it, and, if it is refused, that nothing else has changed, by an object that was
 * made alike and to which it was not made. All this twice: behind a call with a FAULT and behind one without.
 */
final class Edges {
    static final int UNKNOWN = FaceGlass.UNKNOWN, OUTSIDE = FaceGlass.OUTSIDE, STATE = FaceGlass.STATE;
    static final int FULL = FaceGlass.FULL, NONE = FaceGlass.NONE;
    static final int NULL = -11, CAST = -12, INDEX = -13, SIZE = -14;
    static final int MIN = Integer.MIN_VALUE, MAX = Integer.MAX_VALUE;

    private static final int LEFT_BEHIND = 4;

    interface Maker {
        FaceGlass make();
    }

    interface Call {
        long on(FaceGlass x);
    }

    interface CallOf {
        long on(FaceGlass x, int[] a);
    }

    /** In place of a number of the call: the object is the one from elsewhere. */
    static final int OBJECT = -1;

    /** One number that is not as told, and what is answered. */
    private record Trouble(int answer, int argument, int value) {
    }

    private final Check check;
    private final boolean namesFaults;
    private final boolean answersLong;
    private Maker scene = Scene::hall;
    private Maker elsewhere = Scene::withoutCourt;

    private Edges(String promise, boolean namesFaults, boolean answersLong) {
        check = new Check(promise);
        this.namesFaults = namesFaults;
        this.answersLong = answersLong;
    }

    static Edges ofFaultyCall(String promise) {
        return new Edges(promise, true, false);
    }

    static Edges ofPlainCall(String promise) {
        return new Edges(promise, false, false);
    }

    static Edges ofFaultyLongCall(String promise) {
        return new Edges(promise, true, true);
    }

    static Edges ofPlainLongCall(String promise) {
        return new Edges(promise, false, true);
    }

    void end() {
        check.end();
    }

    /** The objects of the calls that follow; the hall, if nothing else is told. */
    void at(Maker maker) {
        scene = maker;
    }

    /** The object of inOrder() that is wrong itself; one without a COURT, if nothing else is told. */
    void elsewhere(Maker maker) {
        elsewhere = maker;
    }

    /** Other calls' answers, by which the promise is seen. */
    void seen(String sentence, Call call, long due) {
        check.due(sentence, call.on(scene.make()), due);
    }

    /** An answer that is no refusal and no FAULT. */
    void taken(String sentence, Call call, long due) {
        for (int before : new int[] {0, LEFT_BEHIND}) {
            FaceGlass x = made(scene, before);
            check.due(sentence, call.on(x), due);
            check.due(sentence + ": fault() behind it", x.fault(), namesFaults ? 0 : before);
        }
    }

    /** The same, of an answer behind which all is as it was, too. */
    void leaving(String sentence, Call call, long due) {
        answered(sentence, scene, call, due, 0);
    }

    /** A refusal, or a FAULT, by its number as an int call answers it. */
    void refused(String sentence, Call call, int answer) {
        answered(sentence, scene, call, answersLong ? FaceGlass.LOST : answer, faultOf(answer));
    }

    private static int faultOf(int answer) {
        return answer <= NULL && answer >= SIZE ? -10 - answer : 0;
    }

    private static FaceGlass made(Maker maker, int fault) {
        FaceGlass x = maker.make();
        if (fault == 0) {
            x.sheet(-1, 0, 0);
        } else {
            x.sheet(0, 0, -1);
        }
        return x;
    }

    private void answered(String sentence, Maker maker, Call call, long due, int fault) {
        for (int before : new int[] {0, LEFT_BEHIND}) {
            FaceGlass x = made(maker, before);
            check.due(sentence, call.on(x), due);
            check.due(sentence + ": fault() behind it", x.fault(), namesFaults ? fault : before);
            List<Long> twin = Scene.seen(made(maker, before));
            check.due(sentence + ": nothing changes", Scene.seen(x).equals(twin) ? 1 : 0, 1);
        }
    }

    /**
     * Troubles of one call, in the order told, each row an answer, which of the call's numbers it is of, and
     * such numbers; good are numbers with none. Each alone, and each few that can meet: answered is the first.
     */
    void inOrder(CallOf call, int[] good, int[][] troubles) {
        List<Trouble> all = new ArrayList<>();
        for (int[] row : troubles) {
            for (int v = 2; v < row.length; v++) {
                all.add(new Trouble(row[0], row[1], row[v]));
            }
        }
        meet(call, good, all, 0, new ArrayList<>());
    }

    private void meet(CallOf call, int[] good, List<Trouble> all, int from, List<Trouble> met) {
        if (!met.isEmpty()) {
            tryMet(call, good, met);
        }
        for (int k = from; k < all.size(); k++) {
            Trouble next = all.get(k);
            if (met.stream().allMatch(other -> other.argument != next.argument)) {
                met.add(next);
                meet(call, good, all, k + 1, met);
                met.remove(met.size() - 1);
            }
        }
    }

    private void tryMet(CallOf call, int[] good, List<Trouble> met) {
        int[] a = good.clone();
        Maker maker = scene;
        for (Trouble trouble : met) {
            if (trouble.argument == OBJECT) {
                maker = elsewhere;
            } else {
                a[trouble.argument] = trouble.value;
            }
        }
        int answer = met.get(0).answer;
        String sentence = "in order " + Arrays.toString(a) + (maker == scene ? "" : " elsewhere");
        answered(sentence, maker, x -> call.on(x, a), answersLong ? FaceGlass.LOST : answer, faultOf(answer));
    }
}
