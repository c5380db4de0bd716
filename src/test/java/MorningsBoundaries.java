/** Boundary cases of promises 26 to 32: who should mend, on which DAY, how late, what is drawn, who is lost. */
final class MorningsBoundaries {
    private static final String PLAIN = "tower(1, 0, 0, 1)";
    private static final String FIVE_MILES = "tower(1, 0, 0, 5)";
    private static final String ASKING = "What else is asked of a CRY changes nothing";
    private final Boundaries b;

    MorningsBoundaries(Boundaries b) {
        this.b = b;
    }

    void all() {
        mender();
        menderNone();
        bestDay();
        bestDayRefused();
        latest();
        latestRefused();
        seed();
        draw();
        often();
        oftenLeaves();
        oftenRefused();
        lost();
    }

    private void mender() {
        b.promise(26);
        String sentence = "MENDER by a CRY from a TOWER at t. .. MENDER: the TOWER which, were it of KIND mender, would make the sum of "
            + "all OFFS' distances from 0 least";
        b.test(sentence, "less by one alone", PLAIN, "tower(1, 18, 3, 5)", "mender(0, 400) -> 1", "towerOf(1, 0) -> 1");
        b.test(sentence, "where it began, too, by a CRY from another", "tower(1, 15, 5, 1)", FIVE_MILES, "mender(1, 400) -> 0",
            "mender(0, 400) -> -3");
        b.test(sentence, "the least of two sums", PLAIN, "tower(1, 18, 1, 5)", "tower(1, 17, 5, 5)", "mender(0, 400) -> 2");
        b.test(sentence + " .. and to no fewer); of several the least.", "two sums alike", PLAIN, "tower(1, 18, 1, 5)",
            "tower(1, 20, 2, 5)", "mender(0, 400) -> 1");
        b.test("(of those to whom it comes then; less than now, and to no fewer)", "it comes to more then", PLAIN, "tower(1, 15, 5, 5)",
            "tower(1, 5, 0, 1)", "rules: plain if number = 1 silent;", "within(0, 400, 999) -> 2", "mender(0, 400) -> 1");
        b.test("(of those to whom it comes then; less than now, and to no fewer)",
            "of those to whom it comes now alone it would be less, with one more it isn't", PLAIN, "tower(1, 15, 5, 5)",
            "tower(1, 14, 0, 1)", "rules: plain if number = 1 silent;", "mender(0, 400) -> -3", "change(2, 1, 13)", "mender(0, 400) -> 1");
        b.test("where it is asked from a TOWER, without a way, it goes both ways.", "from the middle, the sum of both sides",
            "tower(1, 10, 5, 1)", "tower(1, 0, 0, 4)", "tower(1, 9, 5, 5)", "mender(1, 400) -> 0", "change(0, 1, 15)",
            "mender(1, 400) -> 2");
        b.test(sentence + " .. BAD; NONE.", "BAD: empty, there is no TOWER", "mender(0, 0) -> -1");
        b.test(sentence + " .. BAD; NONE.", "BAD: a number too small, too large", "ValleyA", "mender({-1|LOW|6|9|HIGH}, 0) -> -1");
        b.test(sentence + " .. BAD; NONE.", "BAD: t too small, too large", PLAIN, "tower(1, 15, 5, 5)",
            "mender(0, {-1|LOW|1440|HIGH}) -> -1", "mender(0, {0|1439}) -> 1");
        b.unchanged(ASKING, "refused, and answered", "mender(0, 400)", "mender(5, 400)", "mender({-1|9}, 0) -> -1",
            "mender(0, {-1|1440}) -> -1");
    }

    private void menderNone() {
        String sentence = "(of those to whom it comes then; less than now, and to no fewer)";
        b.test(sentence + " .. BAD; NONE.", "NONE: one TOWER", PLAIN, "mender(0, 0) -> -3");
        b.test(sentence + " .. BAD; NONE.", "NONE: all are right", PLAIN, "tower(1, 20, 5, 5)", "mender(0, 400) -> -3");
        b.test(sentence + " .. BAD; NONE.", "NONE: DELAY 0 adds nothing, the same as now", PLAIN, "tower(1, 15, 0, 5)",
            "mender(0, 400) -> -3");
        b.test(sentence + " .. BAD; NONE.", "NONE: as far on the other side, the same as now", PLAIN, "tower(1, 18, 4, 5)",
            "mender(0, 400) -> -3", "change(1, 2, 3)", "mender(0, 400) -> 1");
        b.test(sentence + " .. BAD; NONE.", "NONE: they are menders", PLAIN, "tower(4, 10, 5, 5)", "mender(0, 400) -> -3");
        b.test(sentence + " .. BAD; NONE.", "NONE: it would come to one fewer", PLAIN, "tower(1, 15, 5, 5)", "tower(1, 4, 0, 1)",
            "rules: mender silent;", "mender(0, 400) -> -3");
        b.test(sentence, "the last one would be silent: to no fewer", PLAIN, "tower(1, 15, 5, 5)", "rules: mender silent;",
            "mender(0, 400) -> 1");
    }

    private void bestDay() {
        b.promise(27);
        String sentence = "BEST DAY of a TOWER by a CRY from a TOWER at t. .. BEST DAY of a TOWER: the DAY on which its OFF is nearest "
            + "to 0; of several the least.";
        b.test(sentence, "all DAYS are alike", PLAIN, FIVE_MILES, "bestDay(1, 0, 400) -> 0");
        b.test(sentence, "the last DAY", PLAIN, "tower(1, 25, 0, 5)", "wind(6, 1)", "bestDay(1, 0, 400) -> 6");
        b.test(sentence, "above 0 on one DAY, as far below on the next", PLAIN, "tower(1, 20, 0, 5)", "wind({0|1|2|5|6}, 3)", "wind(3, -1)",
            "wind(4, 1)", "bestDay(1, 0, 400) -> 3");
        b.test(sentence, "below 0 on one DAY, as far above on the next", PLAIN, "tower(1, 20, 0, 5)", "wind({0|1|2|5|6}, 3)", "wind(3, 1)",
            "wind(4, -1)", "bestDay(1, 0, 400) -> 3");
        b.test(sentence, "nearer by one", PLAIN, "tower(3, 5, 0, 5)", "wind(2, -1)", "bestDay(1, 0, 400) -> 6", "change(1, 1, 3)",
            "bestDay(1, 0, 400) -> 6", "change(1, 1, 8)", "bestDay(1, 0, 400) -> 2");
        b.test(sentence, "it comes on that DAY alone, though farther off", PLAIN, "tower(5, 0, 0, 1)", "wind(4, 3)",
            "bestDay(1, 0, 353) -> 4", "bestDay(1, 0, 356) -> 0");
        b.test("BEST DAY of a TOWER by a CRY from a TOWER at t.", "from itself: right on each", "ValleyA", "bestDay(5, 5, 0) -> 0");
    }

    private void bestDayRefused() {
        String sentence = "BAD; NONE: it comes on no DAY.";
        b.test(sentence, "NONE: MINUTE 359 on the DAY that is latest", PLAIN, "tower(5, 0, 0, 1)", "wind(6, 3)", "bestDay(1, 0, 352) -> -3",
            "bestDay(1, 0, 353) -> 6");
        b.test(sentence, "NONE: beyond a silent one", PLAIN, PLAIN, PLAIN, "rules: plain if number = 1 silent;", "bestDay(2, 0, 400) -> -3",
            "bestDay(1, 0, 400) -> 0");
        b.test(sentence, "silent on all DAYS but the last", PLAIN, PLAIN, PLAIN, "rules: plain if number = 1 and day < 6 silent;",
            "bestDay(2, 0, 400) -> 6");
        b.test(sentence, "BAD: empty, there is no TOWER", "bestDay(0, 0, 0) -> -1");
        b.test(sentence, "BAD: a number too small, too large", "ValleyA", "bestDay({-1|LOW|6|9|HIGH}, 0, 0) -> -1",
            "bestDay(0, {-1|LOW|6|9|HIGH}, 0) -> -1");
        b.test(sentence, "BAD: t too small, too large", "ValleyA", "bestDay(0, 0, {-1|LOW|1440|HIGH}) -> -1",
            "bestDay(1, 0, {0|1439}) -> 0");
        b.test("of several the first named .. " + sentence, "both", "ValleyA", "bestDay(3, 0, 0) -> -3", "bestDay(3, 0, -1) -> -1");
        b.unchanged(ASKING, "refused, and answered", "bestDay(4, 0, 400)", "bestDay(3, 0, 0) -> -3", "bestDay({-1|9}, 0, 0) -> -1",
            "bestDay(0, {-1|9}, 0) -> -1", "bestDay(0, 0, {-1|1440}) -> -1");
    }

    private void latest() {
        b.promise(28);
        String sentence = "LATEST, from a TOWER to one (or itself) by a MINUTE (0 to 9999). .. LATEST: the greatest t by which a CRY "
            + "comes to a TOWER by a told MINUTE.";
        b.test(sentence, "itself: MINUTE 0, the least", PLAIN, "latest(0, 0, 0) -> 0");
        b.test(sentence, "itself: MINUTES 1439, 1440 and 9999", PLAIN, "latest(0, 0, {1439|1440|9999}) -> 1439",
            "latest(0, 0, 1438) -> 1438");
        b.test(sentence, "it just comes at t 0, and doesn't", PLAIN, FIVE_MILES, "latest(0, 1, 20) -> 0", "latest(0, 1, {19|0}) -> -3",
            "latest(0, 1, 21) -> 1");
        b.test(sentence, "it just comes at t 1439", PLAIN, FIVE_MILES, "latest(0, 1, {1459|1460|9999}) -> 1439",
            "latest(0, 1, 1458) -> 1438");
        b.test(sentence + " .. (a sleeper none that comes ahead of MINUTE 360)", "MINUTE 360, and 359", PLAIN, "tower(5, 0, 0, 5)",
            "latest(0, 1, 360) -> 340", "latest(0, 1, 359) -> -3", "latest(0, 1, 361) -> 341");
        b.test(sentence, "to the east", PLAIN, FIVE_MILES, "wind(0, 3)", "latest(1, 0, 5) -> 0", "latest(1, 0, 4) -> -3");
        b.test(sentence, "the latest of all that comes", "9 times: tower(1, 0, 9, 20)", "wind(0, 3)", "latest(0, 8, 2622) -> 1439",
            "latest(0, 8, 2621) -> 1438", "latest(0, 8, 1182) -> -3", "latest(0, 8, 1183) -> 0");
    }

    private void latestRefused() {
        String sentence = "by a MINUTE (0 to 9999). BAD; NONE.";
        b.test(sentence, "NONE: beyond a silent one", PLAIN, PLAIN, PLAIN, "rules: plain if number = 1 silent;", "latest(0, 2, 9999) -> -3",
            "latest(0, 1, 9999) -> 1439");
        b.test(sentence, "BAD: empty, there is no TOWER", "latest(0, 0, 0) -> -1");
        b.test(sentence, "BAD: a number too small, too large", "ValleyA", "latest({-1|LOW|6|9|HIGH}, 0, 0) -> -1",
            "latest(0, {-1|LOW|6|9|HIGH}, 0) -> -1");
        b.test(sentence, "BAD: a MINUTE too small", "ValleyA", "latest(0, 0, {-1|LOW}) -> -1");
        b.test(sentence, "BAD: a MINUTE too large", "ValleyA", "latest(0, 0, {10000|HIGH}) -> -1");
        b.test("of several the first named .. " + sentence, "both", "ValleyA", "latest(0, 3, 0) -> -3", "latest(0, 3, -1) -> -1");
        b.unchanged(ASKING, "refused, and answered", "latest(0, 5, 500)", "latest(0, 3, 0) -> -3", "latest({-1|9}, 0, 0) -> -1",
            "latest(0, {-1|9}, 0) -> -1", "latest(0, 0, {-1|10000}) -> -1");
    }

    private void seed() {
        b.promise(29);
        String sentence = "z becomes v: what it was.";
        b.test(sentence + " .. z (an int; 1 at first)", "the first", "seed(5) -> 1", "seed(5) -> 5");
        b.test(sentence + " .. z (an int; 1 at first)", "0, -1, the least and the greatest int", "seed(0) -> 1", "seed(-1) -> 0",
            "seed(LOW) -> -1", "seed(HIGH) -> -2147483648", "seed(1) -> 2147483647");
        b.test(sentence, "what it was may be as low as a refusal, and it becomes v all the same", "seed(-1)", "seed(7) -> -1",
            "seed(-4) -> 7", "seed(7) -> -4");
        b.test(sentence, "WIND is left", "wind(0, 2)", "seed(7)", "wind(0, 0) -> 102");
    }

    private void draw() {
        b.promise(30);
        String sentence = "DRAWN: WIND of a DAY then, and 100 more. .. DRAWN: z (an int; 1 at first) becomes z * 1103515245 + 12345: "
            + "WIND of a DAY becomes (z >>> 16) modulo 7, less 3.";
        b.test(sentence, "by the first z", "draw(0) -> 100", "seed(0) -> 1103527590", "wind(0, 0) -> 100");
        b.test(sentence, "WIND -3, the least, and 3, the greatest", "seed(7)", "draw(0) -> 97", "draw(6) -> 103", "wind(0, 0) -> 97",
            "wind(6, 0) -> 103");
        b.test(sentence, "a z below 0 comes of it", "seed(1)", "draw(1) -> 100", "draw(1) -> 102", "seed(1) -> -1770082073");
        b.test(sentence, "wrap-around: the greatest z", "seed(HIGH)", "draw(0) -> 101", "seed(0) -> 1043980748");
        b.test(sentence, "wrap-around: the least z", "seed(LOW)", "draw(0) -> 98", "seed(0) -> -2147471303");
        b.test(sentence, "z 0 and z -1", "seed(0)", "draw(0) -> 97", "seed(-1) -> 12345", "draw(0) -> 102", "seed(0) -> -1103502900");
        b.test(sentence, "the first DAY and the last, not the others, not today's", "day(3)", "seed(7)", "draw(0)", "draw(6)",
            "wind({1|2|3|4|5}, 0) -> 100", "day(0) -> 3");
        b.test(sentence + " .. BAD.", "a DAY too small, too large", "draw({-1|LOW|7|HIGH}) -> -1", "seed(0) -> 1");
        b.unchanged("such a call changes nothing", "refused", "draw({-1|7}) -> -1");
    }

    private void often() {
        b.promise(31);
        // by z 1 the WINDS drawn are 0 2 2 -1 -3 -3 -1 -3 -2 2: OFF of TOWER 1 is 0 -10 -10 5 15 15 5 15 10 -10
        String sentence = "OFTEN by n (1 to 60), with a bound (0 to 999). .. OFTEN by n: in how many of n mornings, ahead of each of "
            + "which WIND of the DAY is DRAWN";
        String farther = "a CRY from the first TOWER at t comes to a TOWER whose OFF then is no farther from 0 than a bound.";
        b.test(sentence, "1 morning, the fewest", PLAIN, "tower(1, 20, 0, 5)", "often(1, 0, 400, 1) -> 1", "seed(1103527590)",
            "often(1, 9, 400, 1) -> 0", "often(1, 10, 400, 1) -> 1");
        b.test(sentence, "60 mornings, the most", PLAIN, FIVE_MILES, "often(0, 0, 400, 60) -> 60", "often(1, 999, 400, 60) -> 60");
        b.test(sentence + " .. " + farther, "just as far as the bound, and one farther", PLAIN, "tower(1, 20, 0, 5)",
            "often(1, 15, 400, 10) -> 10", "often(1, 14, 400, 10) -> 7", "often(1, 10, 400, 10) -> 7", "often(1, 9, 400, 10) -> 3",
            "often(1, 5, 400, 10) -> 3", "often(1, 4, 400, 10) -> 1", "often(1, 0, 400, 10) -> 1");
        b.test(farther, "MINUTE 359 and 360: only by WIND 2 of the ten", PLAIN, "tower(5, 0, 0, 1)", "often(1, 999, 353, 10) -> 0",
            "often(1, 999, 354, 10) -> 3", "often(1, 999, 355, 10) -> 3", "often(1, 999, 356, 10) -> 4");
        b.test(farther, "999 and 1000", PLAIN, "7 times: tower(1, 0, 0, 20)", "tower(1, 2, 0, 3)", "seed(-865315532)",
            "often(8, 999, 0, 1) -> 1", "often(8, 998, 0, 1) -> 0");
        b.test("WIND of the DAY is DRAWN", "of today's alone", PLAIN, "tower(1, 20, 0, 5)", "day(6)", "wind(0, 3)",
            "often(1, 0, 400, 10) -> 1", "wind(0, 0) -> 103");
    }

    private void oftenLeaves() {
        String sentence = "(z and WIND are in the end what they were)";
        b.test(sentence, "also when they were neither 1 nor 0", PLAIN, FIVE_MILES, "seed(-5)", "wind(0, -2)", "often(1, 9, 400, 60)",
            "wind(0, 0) -> 98", "seed(0) -> -5");
        b.test(sentence, "so it is asked again with the same answer", PLAIN, "tower(1, 20, 0, 5)", "2 times: often(1, 9, 400, 10) -> 3",
            "draw(0) -> 100", "draw(0) -> 102");
        b.test("OFTEN by n: in how many of n mornings, ahead of each of which WIND of the DAY is DRAWN",
            "not the WIND that was: it is drawn ahead of the first, too", PLAIN, "tower(1, 20, 0, 5)", "wind(0, 3)",
            "often(1, 0, 400, 1) -> 1");
    }

    private void oftenRefused() {
        String sentence = "OFTEN by n (1 to 60), with a bound (0 to 999). BAD.";
        b.test(sentence, "n too small", "ValleyA", "often(0, 0, 0, {0|-1|LOW}) -> -1");
        b.test(sentence, "n too large", "ValleyA", "often(0, 0, 0, {61|HIGH}) -> -1");
        b.test(sentence, "a bound too small, too large", "ValleyA", "often(0, {-1|LOW|1000|HIGH}, 0, 1) -> -1");
        b.test(sentence + " .. a MINUTE t (0 to 1439)", "t too small, too large", "ValleyA", "often(0, 0, {-1|LOW|1440|HIGH}, 1) -> -1",
            "often(0, 0, {0|1439}, 1) -> 1");
        b.test(sentence, "empty: there is no TOWER", "often(0, 0, 0, 1) -> -1");
        b.test(sentence, "a number too small, too large", "ValleyA", "often({-1|LOW|6|9|HIGH}, 0, 0, 1) -> -1");
        b.unchanged(ASKING, "refused, and answered", "often(4, 20, 400, 60)", "often({-1|9}, 0, 0, 1) -> -1",
            "often(0, {-1|1000}, 0, 1) -> -1", "often(0, 0, {-1|1440}, 1) -> -1", "often(0, 0, 0, {0|61}) -> -1");
    }

    private void lost() {
        b.promise(32);
        String sentence = "LOST by a TOWER: how many TOWERS fewer a CRY from the first at t comes to, if he cries nothing on.";
        b.test("LOST by a TOWER (by the first: all but itself). .. " + sentence, "by the first of nine", "9 times: " + PLAIN,
            "lost(0, 400) -> 8");
        b.test("LOST by a TOWER (by the first: all but itself). .. " + sentence, "by the first, as far as it comes", "ValleyA",
            "lost(0, 316) -> 2", "lost(0, 317) -> 5");
        b.test("LOST by a TOWER (by the first: all but itself). .. " + sentence, "one TOWER: none", PLAIN, "lost(0, 0) -> 0");
        b.test(sentence, "by the last: none; by the one ahead of it: one", "9 times: " + PLAIN, "lost(8, 400) -> 0", "lost(7, 400) -> 1");
        b.test(sentence, "it doesn't come to him, or ends with him", "ValleyA", "lost({2|3|4|5}, 316) -> 0", "lost(1, 316) -> 1");
        b.test(sentence, "he cries nothing on as it is", PLAIN, PLAIN, PLAIN, "rules: plain if number = 1 silent;", "lost(1, 400) -> 0",
            "lost(0, 400) -> 1");
        b.test(sentence + " .. BAD.", "empty: there is no TOWER", "lost(0, 0) -> -1");
        b.test(sentence + " .. BAD.", "a number too small, too large", "ValleyA", "lost({-1|LOW|6|9|HIGH}, 0) -> -1");
        b.test(sentence + " .. BAD.", "t too small, too large", "ValleyA", "lost(0, {-1|LOW|1440|HIGH}) -> -1", "lost(0, 0) -> 2",
            "lost(0, 1439) -> 5");
        b.unchanged(ASKING, "refused, and answered", "lost(1, 400)", "lost({-1|9}, 0) -> -1", "lost(0, {-1|1440}) -> -1");
    }
}
