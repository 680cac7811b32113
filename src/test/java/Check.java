/** What the tests share: they compare answers, and tell towns as a user would. */
final class Check {
    private int wrong = 0;
    private int asked = 0;
    private final String what;

    Check(String what) {
        this.what = what;
    }

    void due(String call, long got, long want) {
        asked++;
        if (got != want) {
            wrong++;
            if (wrong <= 50) {
                System.out.println(what + ": " + call + " answered " + got + ", due is " + want);
            }
        }
    }

    void due(String call, boolean got, boolean want) {
        due(call, got ? 1 : 0, want ? 1 : 0);
    }

    /** What lies there, all of it and nothing behind it. */
    void lies(String call, YearHands x, int... want) {
        due(call + ", about(17)", x.about(17), want.length);
        for (int i = 0; i < want.length; i++) {
            due(call + ", lies(" + i + ")", x.lies(i), want[i]);
        }
        due(call + ", lies(" + want.length + ")", x.lies(want.length), YearHands.GAP);
        due(call + ", lies(-1)", x.lies(-1), YearHands.GAP);
    }

    void finish() {
        System.out.println(what + ": " + asked + " answers, " + wrong + " not as due");
        if (wrong != 0) {
            System.exit(1);
        }
    }

    /** Puts a text on the TAPE, in place of what is there. */
    static void put(YearHands x, String text) {
        x.end(0);
        int whole = (text.length() + 19) / 20 * 20;
        for (int i = 0; i < whole; i += 20) {
            x.feed(four(text, i), four(text, i + 4), four(text, i + 8), four(text, i + 12), four(text, i + 16));
        }
        x.end(text.length());
    }

    private static int four(String text, int from) {
        int number = 0;
        for (int i = from; i < from + 4; i++) {
            number = number << 8 | (i < text.length() ? text.charAt(i) & 255 : 0);
        }
        return number;
    }

    static int tell(YearHands x, String text) {
        put(x, text);
        return x.town();
    }

    static YearHands town(String text) {
        YearHands x = new YearHands();
        if (tell(x, text) == YearHands.NONE) {
            throw new IllegalStateException("FAULT " + x.fault(0) + " at " + x.fault(1) + " in " + text);
        }
        return x;
    }
}
