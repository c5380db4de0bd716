/** Boundary cases of promises 17 to 25: what is asked of a CRY on one DAY. */
final class QuestionsBoundaries {
    private static final String PLAIN = "tower(1, 0, 0, 1)";
    private static final String FIVE_MILES = "tower(1, 0, 0, 5)";
    private static final String ASKING = "What else is asked of a CRY changes nothing";
    private final Boundaries b;

    QuestionsBoundaries(Boundaries b) {
        this.b = b;
    }

    void all() {
        worst();
        within();
        withinFarthest();
        bestAdd();
        bestAddOverDays();
        bestAddRefused();
        clocks();
        clocksRefused();
        fewest();
        crossed();
        crossedNot();
        noon();
        firstNoon();
        waits();
        waitsRefused();
    }

    private void worst() {
        b.promise(17);
        String sentence = "WORST by a CRY from a TOWER at t. .. WORST: of those to whom it comes the TOWER whose OFF is farthest from "
            + "0; of several the least.";
        b.test(sentence, "it comes to itself alone", PLAIN, "worst(0, 0) -> 0", "tower(5, 0, 0, 1)", "worst(0, 0) -> 0",
            "worst(1, 0) -> 0");
        b.test(sentence, "all are as far: 0 from 0", "3 times: tower(1, 4, 0, 1)", "worst({0|1|2}, 5) -> 0");
        b.test(sentence, "one above 0, one as far below", PLAIN, "tower(1, 9, 0, 1)", "tower(1, 10, 0, 5)", "off(0, 0, 1) -> 10005",
            "off(0, 0, 2) -> 9995", "worst(0, 0) -> 1");
        b.test(sentence, "one below 0, one as far above", PLAIN, "tower(1, 15, 0, 5)", "tower(1, 14, 0, 1)", "off(0, 0, 1) -> 9995",
            "off(0, 0, 2) -> 10005", "worst(0, 0) -> 1");
        b.test(sentence, "farther by one", PLAIN, "tower(1, 15, 0, 5)", "tower(1, 15, 0, 1)", "worst(0, 0) -> 2");
        b.test(sentence, "not one to whom it doesn't come", "ValleyA", "worst(0, 316) -> 2", "worst(0, 317) -> 4");
        b.test(sentence, "the last of nine", "9 times: " + PLAIN, "worst(0, 0) -> 8", "worst(8, 1439) -> 0");
        b.test(sentence + " .. BAD.", "empty: there is no TOWER", "worst(0, 0) -> -1");
        b.test(sentence + " .. BAD.", "a number too small, too large", "ValleyA", "worst({-1|LOW|6|9|HIGH}, 0) -> -1");
        b.test(sentence + " .. BAD.", "t too small, too large", "ValleyA", "worst(0, {-1|LOW|1440|HIGH}) -> -1", "worst(0, 0) -> 2",
            "worst(0, 1439) -> 4");
        b.unchanged(ASKING, "refused, and answered", "worst(0, 400)", "worst({-1|9}, 0) -> -1", "worst(0, {-1|1440}) -> -1");
    }

    private void within() {
        b.promise(18);
        String sentence = "To how many it comes whose OFF is no farther from 0 than a bound (0 to 999).";
        b.test(sentence, "bound 0, the least: where it begins, and who is right", PLAIN, FIVE_MILES, "within(0, 0, 0) -> 1",
            "change(1, 1, 20)", "within(0, 0, 0) -> 2");
        b.test(sentence, "below 0: just as far as the bound, and one farther", "ValleyA", "within(0, 400, 10) -> 2",
            "within(0, 400, 9) -> 1");
        b.test(sentence, "above 0: just as far as the bound, and one farther", PLAIN, "tower(1, 9, 0, 1)", "within(0, 0, 5) -> 2",
            "within(0, 0, 4) -> 1");
        b.test(sentence, "not those to whom it doesn't come", "ValleyA", "within(0, 316, 999) -> 3", "within(0, 317, 999) -> 6");
        b.test(sentence + " BAD.", "a bound too small", "ValleyA", "within(0, 400, {-1|LOW}) -> -1");
        b.test(sentence + " BAD.", "a bound too large", "ValleyA", "within(0, 400, 999) -> 6", "within(0, 400, {1000|HIGH}) -> -1");
        b.test(sentence + " BAD.", "empty: there is no TOWER", "within(0, 0, 0) -> -1");
        b.test(sentence + " BAD.", "a number too small, too large", "ValleyA", "within({-1|LOW|6|9|HIGH}, 0, 0) -> -1");
        b.test(sentence + " BAD.", "t too small, too large", "ValleyA", "within(0, {-1|LOW|1440|HIGH}, 0) -> -1",
            "within(0, {0|1439}, 0) -> 1");
        b.unchanged(ASKING, "refused, and answered", "within(0, 400, 9)", "within({-1|9}, 0, 0) -> -1", "within(0, {-1|1440}, 0) -> -1",
            "within(0, 0, {-1|1000}) -> -1");
    }

    private void withinFarthest() {
        String sentence = "whose OFF is no farther from 0 than a bound (0 to 999).";
        b.test(sentence, "999 above 0, and 1000", PLAIN, "5 times: tower(2, 99, 0, 1)", "tower(1, 33, 0, 1)", "tower(1, 5, 0, 1)",
            "off(0, 0, 6) -> 10999", "off(0, 0, 7) -> 11000", "within(0, 0, 999) -> 7", "within(0, 0, 998) -> 6");
        b.test(sentence, "999 below 0, and 1000", PLAIN, "7 times: tower(1, 0, 0, 20)", "tower(1, 2, 0, 3)", "wind(0, 3)",
            "off(0, 0, 8) -> 9001", "within(0, 0, 999) -> 9", "within(0, 0, 998) -> 8", "change(8, 1, 1)", "within(0, 0, 999) -> 8");
    }

    private void bestAdd() {
        b.promise(19);
        String sentence = "BEST ADD of a TOWER by a CRY from another one at t. .. BEST ADD of a TOWER: the ADD (0 to 99) by which, on "
            + "the DAYS on which it comes to it, the OFF farthest from 0 is nearest to it; of several the least.";
        b.test(sentence, "he can be right", PLAIN, FIVE_MILES, "bestAdd(1, 0, 400) -> 20", "bestAdd(0, 1, 400) -> 20");
        b.test(sentence, "0, the least: any is too much", PLAIN, "tower(4, 50, 9, 1)", "wind({0|1|2|3|4|5|6}, -3)",
            "bestAdd(1, 0, 400) -> 0");
        b.test(sentence, "99, the greatest: any is too little", PLAIN, "tower(1, 50, 0, 20)", "wind({0|1|2|3|4|5|6}, 3)",
            "bestAdd(1, 0, 400) -> 99");
        b.test(sentence, "98, one below the greatest", PLAIN, "tower(1, 50, 0, 14)", "wind({0|1|2|3|4|5|6}, 3)",
            "bestAdd(1, 0, 400) -> 98");
        b.test(sentence, "of two the least: by 2 one too few, by 3 one too many", PLAIN, "tower(2, 50, 0, 1)", "wind({0|1|2|3|4|5|6}, 1)",
            "bestAdd(1, 0, 400) -> 2");
        b.test(sentence, "all are alike", PLAIN, FIVE_MILES, "rules: plain add 50;", "bestAdd(1, 0, 400) -> 0");
        b.test(sentence + " .. ADD, DELAY, MILES of the TOWER as told", "RULES look at it: the last alone is right", PLAIN, FIVE_MILES,
            "rules: plain if add = 99 add 20; plain add 0;", "bestAdd(1, 0, 400) -> 99");
        b.test(sentence, "what others add counts, what he who begins adds doesn't", "tower(1, 50, 9, 1)", "tower(1, 7, 2, 1)", FIVE_MILES,
            "bestAdd(2, 0, 400) -> 19", "bestAdd(1, 0, 400) -> 4");
        b.test(sentence, "t 0 and t 1439", PLAIN, FIVE_MILES, "bestAdd(1, 0, {0|1439}) -> 20");
        b.test(sentence, "his ADD is left as it was", PLAIN, "tower(1, 77, 0, 5)", "bestAdd(1, 0, 400) -> 20", "towerOf(1, 1) -> 77");
    }

    private void bestAddOverDays() {
        String sentence = "on the DAYS on which it comes to it, the OFF farthest from 0 is nearest to it; of several the least.";
        b.test(sentence, "between two DAYS: 20 MINUTES and 30", PLAIN, FIVE_MILES, "wind(6, 2)", "bestAdd(1, 0, 400) -> 25");
        b.test(sentence, "between two DAYS, of two the least: 20 MINUTES and 25", PLAIN, FIVE_MILES, "wind(0, 1)",
            "bestAdd(1, 0, 400) -> 22");
        b.test(sentence, "the first DAY and the last count", PLAIN, FIVE_MILES, "wind(0, -3)", "wind(6, 3)", "bestAdd(1, 0, 400) -> 20",
            "wind(6, 0)", "bestAdd(1, 0, 400) -> 12", "wind(0, 0)", "wind(6, 3)", "bestAdd(1, 0, 400) -> 27");
        b.test(sentence, "it comes on one DAY alone, the last", PLAIN, "tower(5, 0, 0, 1)", "wind(6, 3)", "bestAdd(1, 0, 353) -> 7");
        b.test(sentence, "it comes on one DAY alone, the first", PLAIN, "tower(5, 0, 0, 1)", "wind(0, 3)", "bestAdd(1, 0, 353) -> 7");
        b.test(sentence + " .. drunk: as a proud one, and 10 on DAY 6.", "a drunk's 10 on one of the DAYS", PLAIN, "tower(3, 0, 0, 5)",
            "bestAdd(1, 0, 400) -> 7");
        b.test("NONE: it comes on no DAY.", "MINUTE 359 on the DAY that is latest", PLAIN, "tower(5, 0, 0, 1)", "wind(6, 3)",
            "bestAdd(1, 0, 352) -> -3");
        b.test("NONE: it comes on no DAY.", "beyond a silent one", PLAIN, PLAIN, PLAIN, "rules: plain if number = 1 silent;",
            "bestAdd(2, 0, 400) -> -3", "bestAdd(1, 0, 400) -> 4");
        b.test("NONE: it comes on no DAY.", "silent on all DAYS but one", PLAIN, PLAIN, FIVE_MILES, "wind(3, 1)",
            "rules: plain if number = 1 and not day = 3 silent;", "bestAdd(2, 0, 400) -> 30");
    }

    private void bestAddRefused() {
        String sentence = "BEST ADD of a TOWER by a CRY from another one at t. BAD: also the same;";
        b.test(sentence, "the same, the first and the last", "ValleyA", "bestAdd(0, 0, 400) -> -1", "bestAdd(5, 5, 400) -> -1");
        b.test(sentence, "empty: there is no TOWER", "bestAdd(0, 1, 0) -> -1", "bestAdd(0, 0, 0) -> -1");
        b.test(sentence, "there is no other one", PLAIN, "bestAdd(0, 1, 0) -> -1", "bestAdd(1, 0, 0) -> -1", "bestAdd(0, 0, 0) -> -1");
        b.test(sentence, "a number too small, too large", "ValleyA", "bestAdd({-1|LOW|6|9|HIGH}, 0, 0) -> -1",
            "bestAdd(0, {-1|LOW|6|9|HIGH}, 0) -> -1");
        b.test(sentence, "t too small, too large", "ValleyA", "bestAdd(1, 0, {-1|LOW|1440|HIGH}) -> -1");
        b.test("of several the first named .. BAD: also the same; NONE: it comes on no DAY.", "both", "ValleyA", "bestAdd(3, 0, 0) -> -3",
            "bestAdd(3, 0, -1) -> -1");
        b.unchanged(ASKING, "refused, and answered", "bestAdd(4, 0, 400)", "bestAdd(3, 0, 0) -> -3", "bestAdd(1, 1, 0) -> -1",
            "bestAdd({-1|9}, 0, 0) -> -1", "bestAdd(0, {-1|9}, 0) -> -1", "bestAdd(0, 1, {-1|1440}) -> -1");
    }

    private void clocks() {
        b.promise(20);
        String sentence = "CLOCKS: by a set of TOWERS, at t. .. CLOCKS: those of a set cry at t to the west, each as far as ahead of "
            + "the next of the set (these HOLD t): the OFF farthest from 0 of all TOWERS. .. Sets are told by bits.";
        b.test(sentence, "the first alone", "3 times: " + FIVE_MILES, "clocks(1, 0) -> 40");
        b.test(sentence, "all: each HOLDS t", "3 times: " + FIVE_MILES, "clocks(7, 0) -> 0");
        b.test(sentence, "each as far as ahead of the next", "3 times: " + FIVE_MILES, "clocks({3|5}, 0) -> 20");
        b.test(sentence, "all of nine, and the last bit", "9 times: " + PLAIN, "clocks(511, 1439) -> 0", "clocks(257, 0) -> 28",
            "clocks(1, 0) -> 32");
        b.test(sentence, "above 0, and as far below", PLAIN, "tower(1, 9, 0, 1)", "tower(1, 14, 0, 5)", "off(0, 0, 1) -> 10005",
            "off(0, 0, 2) -> 9999", "clocks(1, 0) -> 5", "change(2, 1, 8)", "clocks(1, 0) -> 7");
        b.test(sentence, "one of the set cries though he is silent, and holds t though he sleeps", PLAIN, "tower(5, 9, 9, 1)", PLAIN,
            "rules: sleeper silent;", "clocks(3, 0) -> 4", "clocks(1, 400) -> -3");
        b.test(sentence, "empty: of no TOWERS none is off", "clocks(0, 0) -> 0");
    }

    private void clocksRefused() {
        b.test("BAD: also a set with others;", "a bit too many", "ValleyA", "clocks(63, 0) -> 0", "clocks({64|65|127|HIGH}, 0) -> -1");
        b.test("BAD: also a set with others;", "a bit too many of nine", "9 times: " + PLAIN, "clocks({512|513|1023}, 0) -> -1");
        b.test("BAD: also a set with others;", "below 0", "ValleyA", "clocks({-1|-64|LOW}, 0) -> -1");
        b.test("BAD: also a set with others;", "empty: there is no TOWER", "clocks({1|2}, 0) -> -1");
        b.test("by a set of TOWERS, at t. BAD .. a MINUTE t (0 to 1439)", "t too small, too large", "ValleyA",
            "clocks(63, {-1|LOW|1440|HIGH}) -> -1", "clocks(63, {0|1439}) -> 0");
        b.test("NONE: to some TOWER nothing comes.", "empty: the set of none", "ValleyA", "clocks(0, 0) -> -3");
        b.test("NONE: to some TOWER nothing comes.", "the first isn't in it", "ValleyA", "clocks({2|32|62}, 400) -> -3");
        b.test("NONE: to some TOWER nothing comes.", "MINUTE 359; at 360 he hears", PLAIN, "tower(5, 0, 0, 1)", "clocks(1, 355) -> -3",
            "clocks(1, 356) -> 4");
        b.test("of several the first named .. BAD: also a set with others; NONE: to some TOWER nothing comes.", "both", "ValleyA",
            "clocks(0, 1440) -> -1", "clocks(66, 400) -> -1");
        b.unchanged(ASKING, "refused, and answered", "clocks(1, 400)", "clocks({0|2}, 400) -> -3", "clocks({512|-1}, 0) -> -1",
            "clocks(1, {-1|1440}) -> -1");
    }

    private void fewest() {
        b.promise(21);
        String sentence = "FEWEST by a bound (0 to 999), at t. .. FEWEST: the set with which that isn't more than told; with fewest "
            + "TOWERS, of several the least as a number.";
        b.test(sentence, "bound 0, the least: all that are off", "3 times: " + FIVE_MILES, "fewest(0, 0) -> 7");
        b.test(sentence, "just the bound, and one less", "3 times: " + FIVE_MILES, "fewest(40, 0) -> 1", "fewest(39, 0) -> 3",
            "fewest(20, 0) -> 3", "fewest(19, 0) -> 7");
        b.test(sentence, "bound 999, the greatest", "ValleyA", "fewest(999, 400) -> 1");
        b.test(sentence, "of several the least as a number", "3 times: " + FIVE_MILES, "clocks({3|5}, 0) -> 20", "fewest(20, 0) -> 3");
        b.test(sentence, "with fewest TOWERS, though others are right, too", "ValleyA", "clocks({59|63}, 400) -> 0",
            "fewest(0, 400) -> 59");
        b.test(sentence, "of today's DAY, asked first, then of another", PLAIN, "tower(3, 2, 0, 1)", "wind(1, -1)", "fewest(0, 0) -> 1",
            "day(1)", "fewest(0, 0) -> 3", "fewest(1, 0) -> 1", "day(6)", "fewest(9, 0) -> 3", "fewest(10, 0) -> 1");
        b.test(sentence, "one TOWER", PLAIN, "fewest(0, 0) -> 1");
        b.test(sentence, "nine of nine", "9 times: " + PLAIN, "fewest(0, 0) -> 511", "fewest(31, 0) -> 3", "fewest(32, 0) -> 1");
        b.test(sentence, "a set with which nothing comes to some is none", "ValleyA", "fewest(999, 316) -> 9", "fewest(999, 317) -> 1");
        b.test("FEWEST by a bound (0 to 999), at t. BAD;", "a bound too small, too large", "ValleyA",
            "fewest({-1|LOW|1000|HIGH}, 0) -> -1");
        b.test("FEWEST by a bound (0 to 999), at t. BAD; .. a MINUTE t (0 to 1439)", "t too small, too large", "ValleyA",
            "fewest(0, {-1|LOW|1440|HIGH}) -> -1", "fewest(999, 1439) -> 1", "fewest(999, 0) -> 9");
        b.test("NONE: there are no TOWERS.", "empty", "fewest({0|999}, {0|1439}) -> -3");
        b.test("of several the first named .. BAD; NONE: there are no TOWERS.", "empty, and not as told", "fewest({-1|1000}, 0) -> -1",
            "fewest(0, {-1|1440}) -> -1");
        b.unchanged(ASKING, "refused, and answered", "fewest(5, 400)", "fewest({-1|1000}, 0) -> -1", "fewest(0, {-1|1440}) -> -1");
    }

    private void crossed() {
        b.promise(22);
        String sentence = "CROSSED: a CRY from the first TOWER at t, one from the last at u: the first TOWER to which the one from the "
            + "west comes no later than the one from the east.";
        b.test(sentence, "at the first in the same MINUTE, and a MINUTE later", "3 times: " + FIVE_MILES, "crossed(40, 0) -> 0",
            "crossed(39, 0) -> 1", "crossed(40, 1) -> 1");
        b.test(sentence, "in the middle in the same MINUTE, and a MINUTE later", "3 times: " + FIVE_MILES, "crossed(7, 7) -> 1",
            "crossed(7, 8) -> 2");
        b.test(sentence, "at the last in the same MINUTE, and a MINUTE later", "3 times: " + FIVE_MILES, "crossed(0, 40) -> 2",
            "crossed(0, 41) -> -3");
        b.test(sentence, "one TOWER is the first and the last", PLAIN, "crossed(5, 5) -> 0", "crossed(5, 4) -> 0", "crossed(5, 6) -> -3");
        b.test("CROSSED (t, u 0 to 1439).", "the least and the greatest of each", "3 times: " + FIVE_MILES, "crossed(0, 0) -> 1",
            "crossed(1439, 1439) -> 1", "crossed(1439, 0) -> 0", "crossed(0, 1439) -> -3");
        b.test(sentence, "WIND makes the one from the east slower, the other faster", "3 times: " + FIVE_MILES, "wind(0, 3)",
            "crossed(0, 0) -> 1", "crossed(10, 0) -> 0", "crossed(9, 0) -> 1", "crossed(0, 70) -> 2", "crossed(0, 71) -> -3");
    }

    private void crossedNot() {
        String sentence = "CROSSED (t, u 0 to 1439). BAD; NONE: none such.";
        b.test(sentence, "NONE: empty, there is no first and no last", "crossed(0, 0) -> -3");
        b.test(sentence, "NONE: the one from the east doesn't come so far, the other does", PLAIN, PLAIN, "tower(5, 0, 0, 1)",
            "rules: plain if number = 1 silent;", "crossed(400, 400) -> 1", "crossed(400, 401) -> -3");
        b.test(sentence, "NONE: neither is heard by a sleeper in the middle", PLAIN, "tower(5, 0, 0, 1)", PLAIN, "crossed(0, 0) -> -3",
            "crossed(356, 356) -> 1");
        b.test(sentence, "BAD: t too small, too large", "ValleyA", "crossed({-1|LOW|1440|HIGH}, 0) -> -1");
        b.test(sentence, "BAD: u too small, too large", "ValleyA", "crossed(0, {-1|LOW|1440|HIGH}) -> -1");
        b.test("of several the first named .. " + sentence, "empty, and not as told", "crossed({-1|1440}, 0) -> -1",
            "crossed(0, {-1|1440}) -> -1");
        b.unchanged(ASKING, "refused, and answered", "crossed(400, 400)", "crossed(0, 1439) -> -3", "crossed({-1|1440}, 0) -> -1",
            "crossed(0, {-1|1440}) -> -1");
    }

    private void noon() {
        b.promise(23);
        String sentence = "NOON of a TOWER, and 10000 more. .. NOON of a TOWER: the MINUTE in which its HOUR would be 720, by a CRY "
            + "from the first at t";
        b.test(sentence, "the first one: 720, whatever t", "ValleyA", "noon(0, {0|719|720|721|1439}) -> 10720");
        b.test(sentence, "who is right, one MINUTE slow, one fast", PLAIN, "tower(1, 4, 0, 1)", "noon(1, 0) -> 10720", "change(1, 1, 3)",
            "noon(1, 0) -> 10721", "change(1, 1, 5)", "noon(1, 0) -> 10719");
        b.test("(its HOUR goes on with MINUTES from what it HOLDS; it may be ahead of the MINUTE when it came)",
            "ahead of the MINUTE when it came", "ValleyA", "comes(0, 1439, 1) -> 1459", "noon(1, 1439) -> 10730");
        b.test("(its HOUR goes on with MINUTES from what it HOLDS; it may be ahead of the MINUTE when it came)", "ahead of MINUTE 0", PLAIN,
            "4 times: tower(2, 99, 0, 1)", "noon(4, 0) -> 9944", "noon(3, 0) -> 10138");
        b.test(sentence, "the latest", "9 times: tower(1, 0, 9, 20)", "wind(0, 3)", "noon(8, 0) -> 11903");
        b.test(sentence + " .. BAD; NONE: it doesn't come.", "NONE: at 359; at 360 it comes", "ValleyA", "noon({3|5}, 316) -> -3",
            "noon(3, 317) -> 10734");
        b.test(sentence + " .. BAD; NONE: it doesn't come.", "BAD: empty, there is no TOWER", "noon(0, 0) -> -1");
        b.test(sentence + " .. BAD; NONE: it doesn't come.", "BAD: a number too small, too large", "ValleyA",
            "noon({-1|LOW|6|9|HIGH}, 0) -> -1");
        b.test(sentence + " .. BAD; NONE: it doesn't come.", "BAD: t too small, too large", "ValleyA", "noon(0, {-1|LOW|1440|HIGH}) -> -1");
        b.test("of several the first named .. BAD; NONE: it doesn't come.", "both", "ValleyA", "noon(3, -1) -> -1", "noon(3, 0) -> -3");
        b.unchanged(ASKING, "refused, and answered", "noon(5, 400)", "noon(3, 0) -> -3", "noon({-1|9}, 0) -> -1",
            "noon(0, {-1|1440}) -> -1");
    }

    private void firstNoon() {
        b.promise(24);
        String sentence = "The TOWER with the first NOON; of several the least.";
        b.test(sentence, "one TOWER", PLAIN, "firstNoon({0|1439}) -> 0");
        b.test(sentence, "all at once", "9 times: tower(1, 4, 0, 1)", "firstNoon(0) -> 0");
        b.test(sentence, "the last of nine", "9 times: tower(1, 5, 0, 1)", "firstNoon(0) -> 8");
        b.test(sentence, "of two the least", PLAIN, "tower(1, 5, 0, 1)", "tower(1, 4, 0, 1)", "firstNoon(0) -> 1", "change(2, 1, 5)",
            "firstNoon(0) -> 2");
        b.test(sentence, "not one to whom it doesn't come", PLAIN, "tower(5, 99, 0, 1)", "firstNoon(355) -> 0", "firstNoon(356) -> 1");
        b.test(sentence, "ahead of MINUTE 0", PLAIN, "4 times: tower(2, 99, 0, 1)", "firstNoon(0) -> 4");
        b.test("BAD; NONE: there are no TOWERS.", "NONE: empty", "firstNoon({0|1439}) -> -3");
        b.test("BAD; NONE: there are no TOWERS.", "BAD: t too small, too large", "ValleyA", "firstNoon({-1|LOW|1440|HIGH}) -> -1");
        b.test("of several the first named .. BAD; NONE: there are no TOWERS.", "empty, and not as told", "firstNoon({-1|1440}) -> -1");
        b.unchanged(ASKING, "refused, and answered", "firstNoon(400)", "firstNoon({-1|1440}) -> -1");
    }

    private void waits() {
        b.promise(25);
        String sentence = "WAITS, from a TOWER to another one, and 10000 more (below that: he is too late). .. WAITS: one who goes from "
            + "a TOWER at its NOON (20 minutes a mile) waits so long at another one for the NOON of that.";
        b.test(sentence, "he comes in time, a MINUTE late, a MINUTE early", PLAIN, "tower(1, 24, 0, 1)", "waits(1, 0, 400) -> 10000",
            "change(1, 1, 23)", "waits(1, 0, 400) -> 9999", "change(1, 1, 25)", "waits(1, 0, 400) -> 10001");
        b.test(sentence, "to the west and to the east", PLAIN, FIVE_MILES, "waits(0, 1, 400) -> 9920", "waits(1, 0, 400) -> 9880");
        b.test(sentence + " .. of the first one they count nothing", "the first one's MILES", "tower(1, 0, 0, 20)", "tower(1, 20, 0, 5)",
            "waits(0, 1, 400) -> 9900", "waits(1, 0, 400) -> 9900");
        b.test(sentence, "from the first of nine to the last, and back", "9 times: tower(1, 0, 0, 20)", "waits(0, 8, 0) -> 7440",
            "waits(8, 0, 1439) -> 6160");
        b.test(sentence, "between two in the middle", "ValleyA", "waits(1, 2, 400) -> 9942", "waits(2, 1, 400) -> 9938");
    }

    private void waitsRefused() {
        String sentence = "BAD: also the same; NONE: one has no NOON.";
        b.test(sentence, "BAD: the same, the first and the last", "ValleyA", "waits(0, 0, 400) -> -1", "waits(5, 5, 400) -> -1");
        b.test(sentence, "BAD: empty, there is no TOWER", "waits(0, 0, 0) -> -1", "waits(0, 1, 0) -> -1");
        b.test(sentence, "BAD: there is no other one", PLAIN, "waits(0, 1, 0) -> -1", "waits(1, 0, 0) -> -1", "waits(0, 0, 0) -> -1");
        b.test(sentence, "BAD: a number too small, too large", "ValleyA", "waits({-1|LOW|6|9|HIGH}, 0, 0) -> -1",
            "waits(0, {-1|LOW|6|9|HIGH}, 0) -> -1");
        b.test(sentence, "BAD: t too small, too large", "ValleyA", "waits(0, 1, {-1|LOW|1440|HIGH}) -> -1",
            "waits(0, 1, {0|1439}) -> 9910");
        b.test(sentence, "NONE: the one, the other, both", "ValleyA", "waits(0, 3, 316) -> -3", "waits(3, 0, 316) -> -3",
            "waits(3, 4, 316) -> -3", "waits(0, 3, 317) -> 9814");
        b.test("of several the first named .. " + sentence, "the same, and it has no NOON", "ValleyA", "waits(3, 3, 0) -> -1",
            "waits(3, 0, -1) -> -1");
        b.unchanged(ASKING, "refused, and answered", "waits(1, 4, 400)", "waits(3, 0, 0) -> -3", "waits(1, 1, 400) -> -1",
            "waits({-1|9}, 0, 0) -> -1", "waits(0, {-1|9}, 0) -> -1", "waits(0, 1, {-1|1440}) -> -1");
    }
}
