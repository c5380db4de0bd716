/** Promises 9 and 10, and what rules make of what watchmen add. */
public final class RulesTest {
    private static final Due d = new Due("RulesTest");

    public static void main(String[] args) {
        feed();
        rightTexts();
        faults();
        atMost();
        conditions();
        facts();
        whichRule();
        whatIsLeft();
        d.end();
    }

    private static void feed() {
        ShoutedHour x = new ShoutedHour();
        for (int n : new int[] {0, 9, -1, Integer.MIN_VALUE, Integer.MAX_VALUE}) {
            d.due("feed of " + n, x.feed(0, n), -1);
        }
        d.due("lowest byte first", x.feed('p' | 'l' << 8 | 'a' << 16, 3), 3);
        d.due("more", x.feed(0x616c69733b206e69L, 2), 5);
        d.due("one", x.feed(' ', 1), 6);
        d.due("as far as it goes", x.feed(0x20202020306464L << 8 | 'a', 8), 14);
        d.due("bytes", x.many(5), 14);
        d.due("a digit stood where ; must come", x.rules(), -114);
        d.due("used up", x.many(5), 0);
        for (int i = 1; i <= 24; i++) {
            d.due("feed", x.feed(0x2020202020202020L, 8), 8 * i);
        }
        d.due("feed", x.feed(0x2020202020202020L, 7), 199);
        d.due("too many", x.feed(0, 2), -2);
        d.due("wrong and too many", x.feed(0, 9), -1);
        d.due("still", x.many(5), 199);
        d.due("the last", x.feed(' ', 1), 200);
        d.due("full", x.feed(' ', 1), -2);
        d.due("blanks are no rules", x.rules(), 0);
        d.due("empty", x.many(5), 0);
    }

    private static void right(String text, int rules) {
        ShoutedHour x = new ShoutedHour();
        d.due(text, Due.rulesOf(x, text), rules);
        d.due("rules of " + text, x.many(1), rules);
        d.due("tape of " + text, x.many(5), 0);
    }

    private static void fault(String text, int at) {
        ShoutedHour x = new ShoutedHour();
        d.due(text, Due.rulesOf(x, text), -100 - at);
        d.due("rules of " + text, x.many(1), 0);
        d.due("tape of " + text, x.many(5), 0);
    }

    private static void rightTexts() {
        right("", 0);
        right("   ", 0);
        right("watchman add 0;", 1);
        right("plain more 99;proud mile 9;", 2);
        right(" drunk silent ; mender silent; sleeper add 0099;", 3);
        right("plain add5;", 1);
        right("plain if1=1add 1;", 1);
        right("plain if day<wind or add>delay and miles=number silent;", 1);
        right("plain if not not not day = 1 silent;", 1);
        right("plain if(((9999>0000)))silent;", 1);
        right("plain if ((1=1) and (1=1)) or not ((1=1)) silent;", 1);
        right("plain if (1=1) or (1=1) or (1=1) or (1=1) silent;", 1);
        right("plain if add = add add 1;", 1);
    }

    private static void faults() {
        fault("x", 0);
        fault("   ;", 3);
        fault("Plain add 1;", 0);
        fault("plains add 1;", 0);
        fault("plainz add 1;", 0);
        fault("zplain add 1;", 0);
        fault("pla", 0);
        fault("plain", 5);
        fault("plain  ", 7);
        fault("plain ;", 6);
        fault("plain add", 9);
        fault("plain add ", 10);
        fault("plain add;", 9);
        fault("plain add add;", 10);
        fault("plain add 1", 11);
        fault("plain add 1 1;", 12);
        fault("plain add 1,", 11);
        fault("plain add 100;", 10);
        fault("plain more 100;", 11);
        fault("plain add 00001;", 10);
        fault("plain mile 10;", 11);
        fault("plain mile -1;", 11);
        fault("plain silent 1;", 13);
        fault("plain silent", 12);
        fault("plain silent;;", 13);
        fault("plain 5;", 6);
        fault("plain plain add 1;", 6);
        fault("plain if", 8);
        fault("plain if add 5;", 13);
        fault("plain if day silent;", 13);
        fault("plain if day = silent;", 15);
        fault("plain if day = 1;", 16);
        fault("plain if day = 1", 16);
        fault("plain if day == 1 silent;", 14);
        fault("plain if day = 1 silent", 23);
        fault("plain if day = 12345 silent;", 15);
        fault("plain if 12345 = 1 silent;", 9);
        fault("plain if day = 1 and silent;", 21);
        fault("plain if day = 1 or or day = 1 silent;", 20);
        fault("plain if day = 1 not day = 1 silent;", 17);
        fault("plain if not silent;", 13);
        fault("plain if () silent;", 10);
        fault("plain if (day = 1 silent;", 18);
        fault("plain if (day = 1", 17);
        fault("plain if day = 1) silent;", 16);
        fault("plain if (day) silent;", 13);
        fault("plain if ((((1=1)))) silent;", 12);
        fault("plain if (1=1 and ((1=1) or (( 1 = 1)))) silent;", 29);
        fault("plain if if day = 1 silent;", 9);
        fault("plain\tadd 1;", 5);
        fault("plain add 1;\n", 12);
        fault("plain add 1; " + (char) 233, 13);
        fault("plain add " + (char) 176, 10);
        fault("plain add 1;" + (char) 0, 12);
    }

    private static void atMost() {
        String eight = "plain add 1;".repeat(8);
        right(eight, 8);
        right(eight + "    ", 8);
        fault(eight + " plain add 1;", 97);
        fault(eight + " x", 97);
        fault(eight + ";", 96);
        fault("plain add 1;".repeat(7) + "plain", 89);
    }

    /** Whether a condition holds for the plain TOWER 2 of ADD 30, DELAY 7, MILES 9 on DAY 5 with WIND -1. */
    private static void condition(String condition, boolean holds) {
        ShoutedHour x = new ShoutedHour();
        x.tower(1, 0, 0, 1);
        x.tower(1, 0, 0, 1);
        x.tower(1, 30, 7, 9);
        x.day(5);
        x.wind(5, -1);
        d.due("text", Due.rulesOf(x, "watchman if " + condition + " silent;"), 1);
        d.due(condition, x.towerOf(2, 5), holds ? 1 : 0);
    }

    private static void facts() {
        condition("day = 5", true);
        condition("day = 4", false);
        condition("wind = 2", true);
        condition("wind = 5", false);
        condition("add = 30", true);
        condition("delay = 7", true);
        condition("miles = 9", true);
        condition("number = 2", true);
        condition("number < 2", false);
        condition("number < 3", true);
        condition("number > 2", false);
        condition("number > 1", true);
        condition("delay < miles", true);
        condition("miles < delay", false);
        condition("miles > delay", true);
        condition("9999 > 9998", true);
        condition("0030 = add", true);
        condition("day = day", true);
        condition("0 = 0", true);
        condition("0 < day", true);
    }

    private static void conditions() {
        String yes = "1 = 1";
        String no = "1 = 2";
        condition(yes, true);
        condition(no, false);
        condition("not " + yes, false);
        condition("not not " + yes, true);
        condition("not not not " + no, true);
        condition(yes + " or " + yes + " and " + no, true);
        condition("(" + yes + " or " + yes + ") and " + no, false);
        condition(no + " and " + no + " or " + yes, true);
        condition(no + " and (" + no + " or " + yes + ")", false);
        condition("not " + no + " and " + no, false);
        condition("not (" + no + " and " + no + ")", true);
        condition("not " + yes + " or " + yes, true);
        condition("not (" + yes + " or " + yes + ")", false);
        condition(yes + " and " + yes + " and " + no, false);
        condition(yes + " and " + yes + " and " + yes, true);
        condition(no + " or " + no + " or " + yes, true);
        condition(no + " or " + no + " or " + no, false);
        condition("not (not (not (" + yes + ")) or " + no + ")", false);
    }

    private static void whichRule() {
        ShoutedHour x = new ShoutedHour();
        for (int kind = 1; kind <= 5; kind++) {
            x.tower(kind, 10, 3, 5);
        }
        Due.rulesOf(x, "sleeper add 1; drunk add 2; mender add 3; proud add 4; plain add 5; watchman add 6;");
        adds(x, "each his own", 5, 8, 4, 6, 4);
        Due.rulesOf(x, "mender add 3; proud add 4; plain add 5;");
        adds(x, "those under, too", 5, 8, 8, 6, 6);
        Due.rulesOf(x, "sleeper add 1; drunk add 2;");
        adds(x, "those above not", 10, 20, 4, 13, 4);
        Due.rulesOf(x, "watchman more 7; plain add 1;");
        adds(x, "the first", 17, 34, 34, 20, 20);
        Due.rulesOf(x, "watchman if number = 1 silent; watchman mile 9;");
        adds(x, "the first that holds", 45, 20, 90, 48, 48);
        d.due("silent", x.towerOf(1, 5), 1);
        Due.rulesOf(x, "watchman if number = 1 more 1; watchman if number = 1 silent;");
        adds(x, "only where it holds", 10, 22, 20, 13, 13);
        d.due("not silent", x.towerOf(1, 5), 0);
        x.day(6);
        adds(x, "the drunk on his day", 10, 22, 30, 13, 13);
    }

    private static void adds(ShoutedHour x, String what, int... due) {
        for (int k = 0; k < due.length; k++) {
            d.due(what + ", tower " + k, x.towerOf(k, 4), due[k]);
        }
    }

    private static void whatIsLeft() {
        ShoutedHour x = new ShoutedHour();
        x.tower(1, 10, 0, 1);
        Due.rulesOf(x, "plain add 7; plain add 8;");
        d.due("a fault", Due.rulesOf(x, "plain add 9; plain ad 9;"), -119);
        d.due("leaves the rules", x.many(1), 2);
        d.due("as they are", x.towerOf(0, 4), 7);
        d.due("one rule", Due.rulesOf(x, "plain if add = 11 add 9;"), 1);
        d.due("in place of all", x.many(1), 1);
        d.due("in place of all", x.towerOf(0, 4), 10);
        d.due("a fault in brackets", Due.rulesOf(x, "plain if ((not day = 0 add 1;"), -123);
        d.due("another text", Due.rulesOf(x, "plain if (((day = 0))) add 8; plain if day = 1 add 9;"), 2);
        d.due("the conditions are its own", x.towerOf(0, 4), 8);
        d.due("another text", Due.rulesOf(x, "plain if not day = 0 add 8; plain if not day = 1 add 9;"), 2);
        d.due("the conditions are its own", x.towerOf(0, 4), 9);
        for (int times = 0; times < 100; times++) {
            Due.rulesOf(x, "plain if day = 1 or not (day = 0 and wind = 3) silent; plain if day = 0 add " + times + ";");
            d.due("one text after another", x.towerOf(0, 4), times);
        }
        d.due("no text", x.rules(), 0);
        d.due("no rules", x.many(1), 0);
    }
}
