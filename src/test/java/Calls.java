/** The calls of FaceGlass by their names. */
final class Calls {
    static final String[] NAMES = {"court", "ofHead", "wear", "knows", "visits", "plan", "reading", "back", "who",
        "kinds", "wears", "odds", "sheet", "lose", "put", "cell", "copy", "tell", "greet", "as", "trace", "fault", "many"};
    private static final int[] NUMBERS = {4, 2, 2, 2, 5, 3, 3, 1, 5, 5, 5, 4, 3, 1, 3, 3, 5, 1, 1, 2, 0, 0, 1};

    private Calls() {
    }

    /** How many numbers a call is told. */
    static int numbers(String name) {
        for (int k = 0; k < NAMES.length; k++) {
            if (NAMES[k].equals(name)) {
                return NUMBERS[k];
            }
        }
        throw new IllegalArgumentException(name);
    }

    static String told(String name, int[] a) {
        StringBuilder call = new StringBuilder(name).append('(');
        for (int i = 0; i < a.length; i++) {
            call.append(i == 0 ? "" : ", ").append(a[i]);
        }
        return call.append(")").toString();
    }

    static long on(FaceGlass x, String name, int[] a) {
        switch (name) {
            case "court": return x.court(a[0], a[1], a[2], a[3]);
            case "ofHead": return x.ofHead(a[0], a[1]);
            case "wear": return x.wear(a[0], a[1]);
            case "knows": return x.knows(a[0], a[1]);
            case "visits": return x.visits(a[0], a[1], a[2], a[3], a[4]);
            case "plan": return x.plan(a[0], a[1], a[2]);
            case "reading": return x.reading(a[0], a[1], a[2]);
            case "back": return x.back(a[0]);
            case "who": return x.who(a[0], a[1], a[2], a[3], a[4]);
            case "kinds": return x.kinds(a[0], a[1], a[2], a[3], a[4]);
            case "wears": return x.wears(a[0], a[1], a[2], a[3], a[4]);
            case "odds": return x.odds(a[0], a[1], a[2], a[3]);
            case "sheet": return x.sheet(a[0], a[1], a[2]);
            case "lose": return x.lose(a[0]);
            case "put": return x.put(a[0], a[1], a[2]);
            case "cell": return x.cell(a[0], a[1], a[2]);
            case "copy": return x.copy(a[0], a[1], a[2], a[3], a[4]);
            case "tell": return x.tell(a[0]);
            case "greet": return x.greet(a[0]);
            case "as": return x.as(a[0], a[1]);
            case "trace": return x.trace();
            case "fault": return x.fault();
            case "many": return x.many(a[0]);
            default: throw new IllegalArgumentException(name);
        }
    }
}
