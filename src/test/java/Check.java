/** Counts the answers that are not as due, and ends a test with 1 if there was one. */
final class Check {
    private final String name;
    private int seen = 0;
    private int wrong = 0;

    Check(String name) {
        this.name = name;
    }

    void due(String call, long got, long want) {
        seen++;
        if (got != want) {
            wrong++;
            if (wrong <= 40) {
                System.out.println(name + ": " + call + " answered " + got + ", due is " + want);
            }
        }
    }

    boolean isClean() {
        return wrong == 0;
    }

    void end() {
        System.out.println(name + ": " + seen + " answers, " + wrong + " not as due");
        if (wrong != 0) {
            System.exit(1);
        }
    }

    /** Puts a text on a sheet as a row of a lane, and answers what court() says of it. */
    static int court(FaceGlass x, int sheet, int lane, String text) {
        x.sheet(sheet, lane, text.length());
        for (int i = 0; i < text.length(); i++) {
            x.put(sheet, i, text.charAt(i));
        }
        return x.court(sheet, lane, 0, text.length());
    }

    static FaceGlass withCourt(String text) {
        FaceGlass x = new FaceGlass();
        if (court(x, 0, 0, text) < 0) {
            throw new IllegalArgumentException(text);
        }
        return x;
    }

    /** Puts numbers on a sheet, as a row of a lane. */
    static void row(FaceGlass x, int sheet, int lane, int... numbers) {
        x.sheet(sheet, lane, numbers.length);
        for (int i = 0; i < numbers.length; i++) {
            x.put(sheet, i, numbers[i]);
        }
    }
}
