/** Counts the calls whose answers are not as due, and tells each. */
final class Due {
    private final String name;
    private int asked = 0;
    private int wrong = 0;

    Due(String name) {
        this.name = name;
    }

    void due(String call, long got, long want) {
        asked++;
        if (got != want) {
            wrong++;
            System.out.println(name + ": " + call + " answered " + got + ", due is " + want);
        }
    }

    void holds(String what, boolean does) {
        due(what, does ? 1 : 0, 1);
    }

    /** Ends the test with exit code 1 if an answer was wrong. */
    void end() {
        System.out.println(name + ": " + (asked - wrong) + " of " + asked + " answers are as due");
        if (wrong != 0 || asked == 0) {
            System.exit(1);
        }
    }

    /** Feeds a text to THE TAPE; how many bytes it has then. */
    static int feedText(ShoutedHour x, String text) {
        int has = x.many(5);
        for (int i = 0; i < text.length(); i += 8) {
            int n = Math.min(8, text.length() - i);
            long eight = 0;
            for (int j = 0; j < n; j++) {
                eight |= (long) (text.charAt(i + j) & 255) << 8 * j;
            }
            has = x.feed(eight, n);
        }
        return has;
    }

    static int rulesOf(ShoutedHour x, String text) {
        feedText(x, text);
        return x.rules();
    }
}
