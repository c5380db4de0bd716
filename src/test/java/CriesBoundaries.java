/** Boundary cases of promises 11 to 16: a CRY, what is held of it, and where it comes. */
final class CriesBoundaries {
    private static final String PLAIN = "tower(1, 0, 0, 1)";
    private final Boundaries b;

    CriesBoundaries(Boundaries b) {
        this.b = b;
    }

    void all() {
        cry();
        cryBegins();
        cryEnds();
        cryTakes();
        cryKept();
        shows();
        showsRefused();
        hush();
        comes();
        comesNot();
        holds();
        holdsRefused();
        off();
        offRefused();
    }

    private void cry() {
        b.promise(11);
        String sentence = "A CRY from a TOWER at t goes one way; what comes is HELD: by how many (the first, too).";
        b.test(sentence, "the first alone: from the last to the west", "ValleyA", "cry(5, 400, true) -> 1", "many(4) -> 1",
            "towerOf(5, {6|7}) -> 400");
        b.test(sentence, "the first alone: from the first to the east", "ValleyA", "cry(0, 400, false) -> 1", "many(4) -> 1",
            "towerOf(0, {6|7}) -> 400");
        b.test(sentence, "the first alone: one TOWER", PLAIN, "cry(0, 0, {true|false}) -> 1");
        b.test(sentence, "all, to the west", "ValleyA", "cry(0, 400, true) -> 6", "many(4) -> 6", "towerOf(5, 6) -> 470",
            "towerOf(5, 7) -> 503");
        b.test(sentence, "all of nine, to the east", "9 times: " + PLAIN, "cry(8, 0, false) -> 9", "towerOf(0, 6) -> 0",
            "towerOf(0, 7) -> 32");
        b.test(sentence, "one way: none on the other side", "ValleyA", "cry(3, 400, true) -> 3", "towerOf({0|1|2}, 6) -> -9", "hush() -> 3",
            "cry(3, 400, false) -> 4", "towerOf({4|5}, 6) -> -9");
        b.test(sentence + " BAD.", "empty: there is no TOWER", "cry(0, 0, {true|false}) -> -1");
        b.test(sentence + " BAD.", "a number too small, too large", "ValleyA", "cry({-1|LOW|6|9|HIGH}, 0, {true|false}) -> -1",
            "many(4) -> 0");
        b.test(sentence + " BAD. .. a MINUTE t (0 to 1439)", "t too small", "ValleyA", "cry(0, {-1|LOW}, true) -> -1", "many(4) -> 0");
        b.test(sentence + " BAD. .. a MINUTE t (0 to 1439)", "t too large", "ValleyA", "cry(0, {1440|HIGH}, true) -> -1", "many(4) -> 0");
        b.unchanged("such a call changes nothing", "refused", "cry({-1|9}, 0, true) -> -1", "cry(0, {-1|1440}, {true|false}) -> -1");
    }

    private void cryBegins() {
        b.test("A CRY begins at a TOWER in a MINUTE t (0 to 1439), tells the HOUR t, and goes west, or east.", "t 0, the least", "ValleyA",
            "cry(0, 0, true) -> 3", "towerOf(0, {6|7}) -> 0", "towerOf(1, 6) -> 10", "towerOf(1, 7) -> 20");
        b.test("A CRY begins at a TOWER in a MINUTE t (0 to 1439), tells the HOUR t, and goes west, or east.", "t 1439, the greatest",
            "ValleyA", "cry(0, 1439, true) -> 6", "towerOf(0, {6|7}) -> 1439", "towerOf(1, 6) -> 1449", "towerOf(1, 7) -> 1459");
        b.test("MINUTES go from 0 on (no day ends).", "beyond 1439", "ValleyA", "cry(0, 1439, true)", "towerOf(5, 6) -> 1509",
            "towerOf(5, 7) -> 1542", "shows(5, 1542) -> 1509");
        String sentence = "At the TOWER where it began it came at t, and is HELD as t.";
        b.test(sentence, "he ADDS nothing and waits for nothing there", "tower(3, 99, 9, 20)", PLAIN, "day(6)", "cry(0, 5, true) -> 2",
            "towerOf(0, {6|7}) -> 5", "towerOf(1, 6) -> 5", "towerOf(1, 7) -> 9");
        b.test(sentence, "a sleeper's ahead of MINUTE 360", "tower(5, 9, 9, 1)", PLAIN, "cry(0, 0, true) -> 2", "towerOf(0, {6|7}) -> 0");
        b.test(sentence, "a silent one's", PLAIN, PLAIN, "rules: plain silent;", "cry(0, 5, true) -> 2", "towerOf(1, 6) -> 5");
    }

    private void cryEnds() {
        String sentence = "he hears it (a sleeper none that comes ahead of MINUTE 360) .. Where it isn't heard, or not cried on, it ends.";
        b.test(sentence, "at 359 he sleeps", PLAIN, "tower(5, 0, 0, 1)", PLAIN, "cry(0, 355, true) -> 1", "towerOf({1|2}, 6) -> -9");
        b.test(sentence, "at 360 he hears", PLAIN, "tower(5, 0, 0, 1)", PLAIN, "cry(0, 356, true) -> 3", "towerOf(1, 7) -> 360",
            "towerOf(2, 7) -> 364");
        b.test(sentence, "to the east, too", PLAIN, "tower(5, 0, 0, 1)", PLAIN, "cry(2, 355, false) -> 1", "cry(2, 356, false) -> 3");
        b.test(sentence, "the HOUR told doesn't count: it comes at 359 and is late", PLAIN, "tower(1, 99, 0, 1)", "tower(5, 0, 0, 1)",
            "cry(0, 351, true) -> 2", "cry(0, 352, true) -> 3");
        b.test(sentence, "a mender under whom he is doesn't sleep", PLAIN, "tower(4, 0, 0, 1)", "cry(0, 0, true) -> 2");
        b.test("after his DELAY cries that on, if he isn't silent. .. not cried on, it ends.", "a silent one hears, and it ends", PLAIN,
            PLAIN, PLAIN, "rules: plain if number = 1 silent;", "cry(0, 5, true) -> 2", "towerOf(1, 6) -> 5", "towerOf(2, 6) -> -9",
            "cry(2, 5, false) -> 2");
        b.test("after his DELAY cries that on, if he isn't silent. .. not cried on, it ends.", "the last one is silent: nothing is lost",
            PLAIN, PLAIN, "rules: plain if number = 1 silent;", "cry(0, 5, true) -> 2");
    }

    private void cryTakes() {
        b.test("It comes to the next TOWER on its way when it has taken its minutes; .. HOLDS the HOUR that it told and what he ADDS",
            "the least of all: 1 minute a mile, ADD 0, DELAY 0", "9 times: " + PLAIN, "wind(0, -3)", "cry(0, 0, true) -> 9",
            "towerOf(8, 6) -> 0", "towerOf(8, 7) -> 8");
        b.test("It comes to the next TOWER on its way when it has taken its minutes; .. HOLDS the HOUR that it told and what he ADDS",
            "the most of all: 7 minutes a mile, 20 miles, DELAY 9, ADD 99 and 99 more, DAY 6", "9 times: tower(3, 99, 9, 20)",
            "rules: drunk more 99;", "day(6)", "wind(6, 3)", "cry(0, 1439, true) -> 9", "towerOf(8, 6) -> 4687", "towerOf(8, 7) -> 2622");
        b.test("It comes to the next TOWER on its way when it has taken its minutes",
            "to the east the greatest WIND makes it 1 minute a mile", "tower(1, 0, 0, 1)", "tower(1, 0, 0, 20)", "wind(0, 3)",
            "comes(1, 0, 0) -> 20", "comes(0, 0, 1) -> 140");
        b.test("and after his DELAY cries that on", "DELAY 0 and 9; his own counts nothing where it ends", PLAIN, PLAIN, PLAIN,
            "comes(0, 0, 2) -> 8", "change(1, 2, 9)", "comes(0, 0, 2) -> 17", "change(2, 2, 9)", "comes(0, 0, 2) -> 17");
    }

    private void cryKept() {
        String sentence = "3 By cry() TOWERS HOLD what comes, and keep it, till another cry() comes to them: HELD, CAME.";
        b.test(sentence, "one that doesn't come leaves it", "ValleyA", "cry(0, 400, true) -> 6", "cry(0, 316, true) -> 3",
            "towerOf(2, 6) -> 338", "towerOf(3, 6) -> 429", "towerOf(3, 7) -> 443");
        b.test(sentence, "one that comes takes its place, though it is earlier", "ValleyA", "cry(0, 400, true)", "cry(5, 0, true)",
            "towerOf(5, {6|7}) -> 0", "many(4) -> 6");
        b.test(sentence, "DAY, WIND, RULES, KIND and ADD change nothing of it", "ValleyA", "cry(0, 400, true)", "day(6)", "wind(6, 3)",
            "rules: watchman silent;", "turn(3, 1)", "change(3, 1, 90)", "towerOf(3, 6) -> 429", "towerOf(3, 7) -> 443", "many(4) -> 6");
    }

    private void shows() {
        b.promise(12);
        String sentence = "HELD, and as many MINUTES as have gone from CAME to a MINUTE (0 to 9999).";
        b.test(sentence, "the MINUTE that is CAME: none has gone", "ValleyA", "cry(0, 400, true)", "shows(4, 487) -> 445",
            "shows(4, 488) -> 446");
        b.test(sentence, "MINUTE 0, the least", PLAIN, "cry(0, 0, true)", "shows(0, 0) -> 0");
        b.test(sentence, "MINUTE 9999, the greatest", "ValleyA", "cry(0, 400, true)", "shows(4, 9999) -> 9957");
        b.test(sentence + " .. MINUTES go from 0 on (no day ends).", "beyond a day", PLAIN, "cry(0, 1439, true)", "shows(0, 1440) -> 1440");
        b.test(sentence, "the last of nine", "9 times: " + PLAIN, "cry(0, 0, true)", "shows(8, 32) -> 0");
    }

    private void showsRefused() {
        String sentence = "to a MINUTE (0 to 9999). BAD; NONE: nothing is held; STATE: it is ahead of CAME.";
        b.test(sentence, "BAD: too small", "ValleyA", "cry(0, 400, true)", "shows(4, {-1|LOW}) -> -1");
        b.test(sentence, "BAD: too large", "ValleyA", "cry(0, 400, true)", "shows(4, {10000|HIGH}) -> -1");
        b.test(sentence, "BAD: empty, there is no TOWER", "shows(0, 0) -> -1");
        b.test(sentence, "BAD: a number too small, too large", "ValleyA", "cry(0, 400, true)", "shows({-1|LOW|6|9|HIGH}, 500) -> -1");
        b.test(sentence, "NONE: nothing is held yet, and no more", "ValleyA", "shows(4, 500) -> -3", "cry(0, 400, true)", "hush()",
            "shows(4, 500) -> -3");
        b.test(sentence, "STATE: one MINUTE ahead", "ValleyA", "cry(0, 400, true)", "shows(4, 486) -> -4", "shows(4, 0) -> -4");
        b.test("of several the first named .. BAD; NONE: nothing is held", "both", "ValleyA", "shows(4, {-1|10000}) -> -1");
        b.test("of several the first named .. BAD; NONE: nothing is held; STATE: it is ahead of CAME.", "BAD and STATE", "ValleyA",
            "cry(0, 400, true)", "shows(4, -1) -> -1", "shows(4, LOW) -> -1");
        b.unchanged("such a call changes nothing", "refused, and answered", "shows({-1|9}, 0) -> -1", "shows(0, {-1|10000}) -> -1",
            "shows(8, 0) -> -3", "shows(5, 499) -> -4", "shows(5, 500) -> 500");
    }

    private void hush() {
        b.promise(13);
        String sentence = "Nothing is HELD anywhere: how many TOWERS held something.";
        b.test(sentence, "empty: no TOWER", "hush() -> 0");
        b.test(sentence, "empty: none held anything", "ValleyA", "hush() -> 0");
        b.test(sentence, "one, and the HOUR 0", "ValleyA", "cry(0, 0, false)", "hush() -> 1", "towerOf(0, {6|7}) -> -9");
        b.test(sentence, "full: nine of nine", "9 times: " + PLAIN, "cry(0, 0, true)", "hush() -> 9", "towerOf({0|8}, 6) -> -9",
            "many(4) -> 0");
        b.test(sentence, "twice", "ValleyA", "cry(0, 400, true)", "hush() -> 6", "hush() -> 0");
        b.test(sentence, "all else is left", "ValleyA", "day(3)", "report(0, 0)", "hush() -> 0", "many(0) -> 6", "many(2) -> 1",
            "day(0) -> 3");
    }

    private void comes() {
        b.promise(14);
        String sentence = "The MINUTE in which a CRY from a TOWER at t comes to another one (or itself).";
        b.test(sentence, "itself: t, the least and the greatest", "ValleyA", "comes(5, 0, 5) -> 0", "comes(5, 1439, 5) -> 1439",
            "comes(3, 0, 3) -> 0");
        b.test(sentence, "the next one, either way", "ValleyA", "comes(1, 100, 2) -> 112", "comes(1, 100, 0) -> 120");
        b.test(sentence, "from the first to the last, and back", "ValleyA", "comes(0, 400, 5) -> 503", "comes(5, 400, 0) -> 503");
        b.test("where it is asked from a TOWER, without a way, it goes both ways.", "from the middle to both ends", "ValleyA",
            "comes(3, 100, 0) -> 143", "comes(3, 100, 5) -> 156");
        b.test(sentence, "the greatest", "9 times: tower(1, 0, 9, 20)", "wind(0, 3)", "comes(0, 1439, 8) -> 2622");
        b.test(sentence + " BAD;", "empty: there is no TOWER", "comes(0, 0, 0) -> -1");
        b.test(sentence + " BAD;", "a number too small", "ValleyA", "comes({-1|LOW}, 0, 0) -> -1", "comes(0, 0, {-1|LOW}) -> -1");
        b.test(sentence + " BAD;", "a number too large", "ValleyA", "comes({6|9|HIGH}, 0, 0) -> -1", "comes(0, 0, {6|9|HIGH}) -> -1");
        b.test(sentence + " BAD; .. a MINUTE t (0 to 1439)", "t too small, too large", "ValleyA", "comes(0, {-1|LOW|1440|HIGH}, 0) -> -1");
    }

    private void comesNot() {
        String sentence = "BAD; NONE: it doesn't.";
        b.test(sentence + " .. (a sleeper none that comes ahead of MINUTE 360)", "at 359, and beyond him; at 360 it does", "ValleyA",
            "comes(0, 316, {3|4|5}) -> -3", "comes(0, 316, 2) -> 350", "comes(0, 317, 3) -> 360", "comes(0, 317, 5) -> 420");
        b.test(sentence + " .. By silent he cries nothing on.", "beyond him, either way", "ValleyA", "rules: proud if number = 2 silent;",
            "comes(0, 400, 2) -> 434", "comes(0, 400, 3) -> -3", "comes(5, 400, 2) -> 468", "comes(5, 400, 1) -> -3",
            "comes(2, 400, 3) -> 408", "comes(2, 400, 1) -> 412");
        b.test("of several the first named .. BAD; NONE: it doesn't.", "both", "ValleyA", "comes(0, -1, 3) -> -1", "comes(0, 0, 3) -> -3",
            "comes(0, 0, 6) -> -1");
        b.unchanged("What else is asked of a CRY changes nothing", "refused, and answered", "comes(0, 400, 5)", "comes(0, 0, 3) -> -3",
            "comes({-1|9}, 0, 0) -> -1", "comes(0, {-1|1440}, 0) -> -1", "comes(0, 0, 9) -> -1");
    }

    private void holds() {
        b.promise(15);
        String sentence = "What that HOLDS by it. .. HOLDS the HOUR that it told and what he ADDS";
        b.test(sentence, "itself: t, whatever he ADDS", "ValleyA", "holds(5, 0, 5) -> 0", "holds(5, 1439, 5) -> 1439");
        b.test(sentence, "ADD 0: the HOUR told", PLAIN, PLAIN, "holds(0, 7, 1) -> 7");
        b.test(sentence, "from the first to the last, and back", "ValleyA", "holds(0, 400, 5) -> 470", "holds(5, 400, 0) -> 445");
        b.test("where it is asked from a TOWER, without a way, it goes both ways.", "from the middle to both ends", "ValleyA",
            "holds(3, 100, 0) -> 122", "holds(3, 100, 5) -> 141");
        b.test(sentence, "the greatest", "9 times: tower(3, 99, 9, 20)", "rules: drunk more 99;", "day(6)", "holds(0, 1439, 8) -> 4687");
        b.test(sentence, "he ADDS the 10 on DAY 6, not on DAY 5", "ValleyA", "day(5)", "holds(0, 400, 4) -> 445", "day(6)",
            "holds(0, 400, 4) -> 455");
    }

    private void holdsRefused() {
        String sentence = "BAD; NONE likewise.";
        b.test(sentence, "BAD: empty, there is no TOWER", "holds(0, 0, 0) -> -1");
        b.test(sentence, "BAD: a number too small", "ValleyA", "holds({-1|LOW}, 0, 0) -> -1", "holds(0, 0, {-1|LOW}) -> -1");
        b.test(sentence, "BAD: a number too large", "ValleyA", "holds({6|9|HIGH}, 0, 0) -> -1", "holds(0, 0, {6|9|HIGH}) -> -1");
        b.test(sentence + " .. a MINUTE t (0 to 1439)", "BAD: t too small, too large", "ValleyA", "holds(0, {-1|LOW|1440|HIGH}, 0) -> -1");
        b.test(sentence, "NONE: at 359; at 360 it comes", "ValleyA", "holds(0, 316, {3|5}) -> -3", "holds(0, 317, 3) -> 346");
        b.test("of several the first named", "BAD and NONE", "ValleyA", "holds(0, -1, 3) -> -1");
        b.unchanged("What else is asked of a CRY changes nothing", "refused, and answered", "holds(0, 400, 5)", "holds(0, 0, 3) -> -3",
            "holds({-1|9}, 0, 0) -> -1", "holds(0, {-1|1440}, 0) -> -1", "holds(0, 0, 9) -> -1");
    }

    private void off() {
        b.promise(16);
        String sentence = "OFF, and 10000 more. .. OFF of a TOWER: what it HOLDS, less the MINUTE in which it came.";
        b.test(sentence, "itself: 0", "ValleyA", "off(3, 0, 3) -> 10000", "off(5, 1439, 5) -> 10000");
        b.test(sentence, "0, one below and one above", PLAIN, "tower(1, 4, 0, 1)", "off(0, 0, 1) -> 10000", "change(1, 1, 3)",
            "off(0, 0, 1) -> 9999", "change(1, 1, 5)", "off(0, 0, 1) -> 10001");
        b.test(sentence, "the farthest below 0", "9 times: tower(1, 0, 9, 20)", "wind(0, 3)", "off(0, 1439, 8) -> 8817");
        b.test(sentence, "the farthest above 0", "9 times: tower(3, 99, 0, 1)", "rules: drunk more 99;", "day(6)", "wind(6, -3)",
            "off(0, 0, 8) -> 13240");
    }

    private void offRefused() {
        String sentence = "BAD; NONE likewise.";
        b.test(sentence, "BAD: empty, there is no TOWER", "off(0, 0, 0) -> -1");
        b.test(sentence, "BAD: a number too small", "ValleyA", "off({-1|LOW}, 0, 0) -> -1", "off(0, 0, {-1|LOW}) -> -1");
        b.test(sentence, "BAD: a number too large", "ValleyA", "off({6|9|HIGH}, 0, 0) -> -1", "off(0, 0, {6|9|HIGH}) -> -1");
        b.test(sentence + " .. a MINUTE t (0 to 1439)", "BAD: t too small, too large", "ValleyA", "off(0, {-1|LOW|1440|HIGH}, 0) -> -1");
        b.test(sentence, "NONE: at 359; at 360 it comes", "ValleyA", "off(0, 316, {3|5}) -> -3", "off(0, 317, 3) -> 9986");
        b.test("of several the first named", "BAD and NONE", "ValleyA", "off(0, -1, 3) -> -1");
        b.unchanged("What else is asked of a CRY changes nothing", "refused, and answered", "off(0, 400, 5)", "off(0, 0, 3) -> -3",
            "off({-1|9}, 0, 0) -> -1", "off(0, {-1|1440}, 0) -> -1", "off(0, 0, 9) -> -1");
    }
}
