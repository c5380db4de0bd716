/** Boundary cases of promises 1 to 8. */
final class ValleyBoundaries {
    private final Boundaries b;

    ValleyBoundaries(Boundaries b) {
        this.b = b;
    }

    void all() {
        newObject();
        newHost();
        towerKind();
        towerAdd();
        towerDelay();
        towerMiles();
        towerFull();
        towerOf();
        towerAdds();
        towerAddsByRules();
        towerSilent();
        towerHeld();
        change();
        changeRefused();
        turn();
        day();
        wind();
        pace();
    }

    private void newObject() {
        b.promise(1);
        b.test("No TOWERS, RULES, REPORTS", "empty: there is none", "many({0|1|2}) -> 0");
        b.test("No TOWERS", "empty: there is no first one", "towerOf(0, 0) -> -1", "cry(0, 0, true) -> -1");
        b.test("No TOWERS, RULES, REPORTS, no WIND", "empty: each DAY's is 0", "wind({0|1|2|3|4|5|6}, 1) -> 100");
        b.test("WIND of each DAY -3 to 3 (0 at first)", "a cry takes 4 minutes a mile", "pace({true|false}) -> 4");
        b.test("nothing is kept.", "empty: there is nothing to become", "again() -> -3", "many(0) -> 0");
        b.test("DAY is 0 to 6 (0 at first)", "the first DAY", "day(6) -> 0");
        b.test("z (an int; 1 at first)", "the first z", "seed(0) -> 1");
        b.test("An object is used for at most 512 calls after it has been made", "the 512th call is as the first",
            "511 times: many(0) -> 0", "tower(1, 0, 0, 1) -> 0");
        b.test("BAD (-1) there is no such thing, or a number is not as told; FULL (-2); NONE (-3); STATE (-4); and what the host "
            + "" + "refuses: -11 nothing where something is asked",
            "each of them", "tower(6, 0, 0, 1) -> -1", "shows(0, 0) -> -1", "9 times: tower(1, 0, 0, 1)", "tower(1, 0, 0, 1) -> -2",
            "shows(0, 0) -> -3", "cry(0, 1, true)", "shows(0, 0) -> -4", "write(0, 0, 1) -> -11");
        b.test("public static final int BAD = -1, FULL = -2, NONE = -3, STATE = -4;", "the constants", "many(0) -> 0");
        b.due("BAD", ShoutedHour.BAD, -1);
        b.due("FULL", ShoutedHour.FULL, -2);
        b.due("NONE", ShoutedHour.NONE, -3);
        b.due("STATE", ShoutedHour.STATE, -4);
    }

    private void newHost() {
        b.test("THE TAPE takes bytes", "empty at first", "many(5) -> 0", "rules() -> 0");
        b.test("ROWS of a CRY", "none at first", "many(3) -> 0", "row(0, 0) -> -9", "judge({true|false}) -> 0");
        b.test("SHEETS 0 to 3 are rows .. or missing (at first).", "each is missing", "item({0|1|2|3}, {0|1|2|3|4}, 0) -> -11");
        b.test("SHELVES 0 to 3 hold .. or nothing (at first).", "each holds nothing", "taken({0|1|2|3}, {0|5|10|14}) -> -11");
        b.test("THE TRACE: numbers of the bodies that ran in the latest act()", "no act() yet", "many(6) -> 0", "trace(0) -> -3");
        b.test("HELD, CAME", "nothing is held yet", "many(4) -> 0", "hush() -> 0");
    }

    private void towerKind() {
        b.promise(2);
        String sentence = "A TOWER of a KIND 1 to 5: its number.";
        b.test(sentence, "KIND 1, the least", "tower(1, 0, 0, 1) -> 0", "towerOf(0, 0) -> 1");
        b.test(sentence, "KIND 5, the greatest", "tower(5, 0, 0, 1) -> 0", "towerOf(0, 0) -> 5");
        b.test(sentence, "the KINDS between", "tower(2, 0, 0, 1) -> 0", "tower(3, 0, 0, 1) -> 1", "tower(4, 0, 0, 1) -> 2",
            "towerOf(0, 0) -> 2", "towerOf(1, 0) -> 3", "towerOf(2, 0) -> 4");
        b.test(sentence + " .. BAD;", "too small: KIND 0, a mere watchman", "tower({0|-1|LOW}, 0, 0, 1) -> -1", "many(0) -> 0");
        b.test(sentence + " .. BAD;", "too large: KIND 6", "tower({6|7|HIGH}, 0, 0, 1) -> -1", "many(0) -> 0");
        b.unchanged("such a call changes nothing", "refused: no such KIND", "tower({0|6}, 0, 0, 1) -> -1");
    }

    private void towerAdd() {
        String sentence = "a KIND, ADD (0 to 99 minutes)";
        b.test(sentence, "0, the least", "tower(1, 0, 5, 5) -> 0", "towerOf(0, 1) -> 0");
        b.test(sentence, "99, the greatest", "tower(1, 99, 5, 5) -> 0", "towerOf(0, 1) -> 99");
        b.test(sentence + " .. BAD", "too small", "tower(1, {-1|LOW}, 5, 5) -> -1", "many(0) -> 0");
        b.test(sentence + " .. BAD", "too large", "tower(1, {100|HIGH}, 5, 5) -> -1", "many(0) -> 0");
        b.unchanged("such a call changes nothing", "refused: no such ADD", "tower(1, {-1|100}, 0, 1) -> -1");
    }

    private void towerDelay() {
        String sentence = "DELAY (0 to 9)";
        b.test(sentence, "0, the least", "tower(1, 5, 0, 5) -> 0", "towerOf(0, 2) -> 0");
        b.test(sentence, "9, the greatest", "tower(1, 5, 9, 5) -> 0", "towerOf(0, 2) -> 9");
        b.test(sentence + " .. BAD", "too small", "tower(1, 5, {-1|LOW}, 5) -> -1", "many(0) -> 0");
        b.test(sentence + " .. BAD", "too large", "tower(1, 5, {10|HIGH}, 5) -> -1", "many(0) -> 0");
        b.unchanged("such a call changes nothing", "refused: no such DELAY", "tower(1, 0, {-1|10}, 1) -> -1");
    }

    private void towerMiles() {
        String sentence = "MILES (1 to 20";
        b.test(sentence, "1, the least", "tower(1, 5, 5, 1) -> 0", "towerOf(0, 3) -> 1");
        b.test(sentence, "20, the greatest", "tower(1, 5, 5, 20) -> 0", "towerOf(0, 3) -> 20");
        b.test(sentence + " .. BAD", "too small", "tower(1, 5, 5, {0|-1|LOW}) -> -1", "many(0) -> 0");
        b.test(sentence + " .. BAD", "too large", "tower(1, 5, 5, {21|HIGH}) -> -1", "many(0) -> 0");
        b.unchanged("such a call changes nothing", "refused: no such MILES", "tower(1, 0, 0, {0|21}) -> -1");
        b.test("of the way from the one ahead; of the first one they count nothing", "the first one's 20 count nothing",
            "tower(1, 0, 0, 20)", "tower(1, 0, 0, 1)", "comes(0, 0, 1) -> 4", "comes(1, 0, 0) -> 4");
        b.test("of the way from the one ahead; of the first one they count nothing", "the last one's count both ways", "tower(1, 0, 0, 1)",
            "tower(1, 0, 0, 20)", "comes(0, 0, 1) -> 80", "comes(1, 0, 0) -> 80");
    }

    private void towerFull() {
        String sentence = "1 TOWERS, 9 at most, numbered as they come, each west of the one ahead";
        b.test(sentence, "empty: the first is number 0", "tower(1, 0, 0, 1) -> 0", "many(0) -> 1", "towerOf(1, 0) -> -1");
        b.test(sentence, "full: the ninth is number 8", "8 times: tower(1, 0, 0, 1)", "tower(2, 0, 0, 1) -> 8", "many(0) -> 9",
            "towerOf(8, 0) -> 2");
        b.test(sentence + " .. BAD; FULL.", "too many: the tenth", "9 times: tower(1, 0, 0, 1)", "tower(2, 0, 0, 1) -> -2", "many(0) -> 9",
            "towerOf(9, 0) -> -1");
        b.unchanged("such a call changes nothing", "refused: the tenth", "tower(3, 9, 9, 9) -> -2");
        b.test("of several the first named .. BAD; FULL.", "the tenth, and not as told", "9 times: tower(1, 0, 0, 1)",
            "tower({0|6}, 0, 0, 1) -> -1", "tower(1, {-1|100}, 0, 1) -> -1", "tower(1, 0, {-1|10}, 1) -> -1",
            "tower(1, 0, 0, {0|21}) -> -1");
        b.test(sentence, "the first has none to the east, the last none to the west", "3 times: tower(1, 0, 0, 1)", "cry(0, 0, false) -> 1",
            "cry(2, 0, true) -> 1", "cry(0, 0, true) -> 3", "cry(2, 0, false) -> 3");
    }

    private void towerOf() {
        b.promise(3);
        String sentence = "Of a TOWER: what = 0 KIND, 1 ADD, 2 DELAY, 3 MILES";
        b.test(sentence, "the least of each", "tower(1, 0, 0, 1)", "towerOf(0, 0) -> 1", "towerOf(0, {1|2}) -> 0", "towerOf(0, 3) -> 1");
        b.test(sentence, "the greatest of each", "tower(5, 99, 9, 20)", "towerOf(0, 0) -> 5", "towerOf(0, 1) -> 99", "towerOf(0, 2) -> 9",
            "towerOf(0, 3) -> 20");
        b.test("Of a TOWER: what = 0 KIND .. BAD.", "empty: there is no TOWER", "towerOf({0|-1|8}, 0) -> -1");
        b.test("Of a TOWER: what = 0 KIND .. BAD.", "a number too small", "ValleyA", "towerOf({-1|LOW}, {0|7}) -> -1");
        b.test("Of a TOWER: what = 0 KIND .. BAD.", "a number too large", "ValleyA", "towerOf(5, 0) -> 4",
            "towerOf({6|9|HIGH}, {0|7}) -> -1");
        b.test("what = 0 KIND .. 7 CAME .. BAD.", "what too small", "ValleyA", "towerOf(0, {-1|LOW}) -> -1");
        b.test("what = 0 KIND .. 7 CAME .. BAD.", "what too large", "ValleyA", "towerOf(0, {8|HIGH}) -> -1");
        b.unchanged("such a call changes nothing", "refused", "towerOf(9, 0) -> -1", "towerOf(0, {-1|8}) -> -1");
    }

    private void towerAdds() {
        String sentence = "4 what he ADDS today";
        b.test(sentence + " .. a: ADD; .. ADDS: plain: a.", "the least and the greatest ADD; DELAY counts nothing", "tower(1, 0, 9, 9)",
            "tower(1, 99, 9, 9)", "towerOf(0, 4) -> 0", "towerOf(1, 4) -> 99");
        b.test(sentence + " .. proud: 2 a.", "the least and the greatest ADD, on DAY 6, too", "tower(2, 0, 9, 9)", "tower(2, 99, 9, 9)",
            "day(6)", "towerOf(0, 4) -> 0", "towerOf(1, 4) -> 198");
        b.test(sentence + " .. drunk: as a proud one, and 10 on DAY 6.", "on DAY 5 not, on DAY 6", "tower(3, 0, 9, 9)",
            "tower(3, 99, 9, 9)", "towerOf(1, 4) -> 198", "day(5)", "towerOf(0, 4) -> 0", "towerOf(1, 4) -> 198", "day(6)",
            "towerOf(0, 4) -> 10", "towerOf(1, 4) -> 208");
        b.test(sentence + " .. mender, sleeper: a and DELAY.", "the least and the greatest", "tower(4, 0, 0, 9)", "tower(4, 99, 9, 9)",
            "tower(5, 0, 0, 9)", "tower(5, 99, 9, 9)", "towerOf({0|2}, 4) -> 0", "towerOf({1|3}, 4) -> 108");
    }

    private void towerAddsByRules() {
        String sentence = "A RULE changes what a watchman adds: the first of THE RULES whose KIND is his or above it, and whose "
            + "condition holds.";
        b.test(sentence, "empty: no RULE changes nothing", "tower(1, 7, 0, 1)", "rules() -> 0", "towerOf(0, 4) -> 7");
        b.test(sentence, "none holds", "tower(1, 7, 0, 1)", "rules: plain if day = 1 add 9; -> 1", "towerOf(0, 4) -> 7", "day(1)",
            "towerOf(0, 4) -> 9");
        b.test(sentence, "full: none of eight holds", "tower(1, 7, 0, 1)", "rules: " + "plain if 0=1 add 9;".repeat(8) + " -> 8",
            "towerOf(0, 4) -> 7", "towerOf(0, 5) -> 0");
        b.test(sentence, "of two that hold the first", "tower(1, 7, 0, 1)", "rules: watchman add 8; plain add 9; -> 2",
            "towerOf(0, 4) -> 8");
        b.test(sentence, "the last one alone holds", "tower(1, 7, 0, 1)",
            "rules: plain if 0 = 1 add 8; proud add 9; drunk add 10; mender add 11; sleeper add 12; plain add 13; -> 6",
            "towerOf(0, 4) -> 13");
        b.test(sentence + " .. 3 drunk (under proud); 5 sleeper (under mender).", "above it, not under it", "tower(1, 7, 0, 1)",
            "tower(2, 7, 0, 1)", "tower(3, 7, 0, 1)", "tower(4, 7, 0, 1)", "tower(5, 7, 0, 1)",
            "rules: drunk add 1; sleeper add 2; proud add 3; mender add 4; -> 4", "towerOf(0, 4) -> 7", "towerOf(1, 4) -> 6",
            "towerOf(2, 4) -> 2", "towerOf(3, 4) -> 4", "towerOf(4, 4) -> 2");
        b.test("by add N: N", "the least and the greatest N", "tower(1, 7, 0, 1)", "tower(2, 7, 0, 1)",
            "rules: plain add 0; proud add 99; -> 2", "towerOf(0, 4) -> 0", "towerOf(1, 4) -> 198");
        b.test("by more N: ADD and N", "the least and the greatest N", "tower(1, 99, 0, 1)", "tower(2, 99, 0, 1)",
            "rules: plain more 0; proud more 99; -> 2", "towerOf(0, 4) -> 99", "towerOf(1, 4) -> 396");
        b.test("by mile N: N times MILES.", "the least and the greatest N", "tower(1, 7, 0, 20)", "tower(2, 7, 0, 20)",
            "rules: plain mile 0; proud mile 9; -> 2", "towerOf(0, 4) -> 0", "towerOf(1, 4) -> 360");
    }

    private void towerSilent() {
        String sentence = "5 whether he is silent today (1, else 0)";
        b.test(sentence, "no RULE: 0", "tower(1, 7, 0, 1)", "towerOf(0, 5) -> 0");
        b.test(sentence, "silent on one DAY alone", "tower(1, 7, 0, 1)", "rules: plain if day = 3 silent; -> 1", "day(2)",
            "towerOf(0, 5) -> 0", "day(3)", "towerOf(0, 5) -> 1", "day(4)", "towerOf(0, 5) -> 0");
        b.test(sentence, "a RULE ahead of it holds: 0", "tower(1, 7, 0, 1)", "rules: plain add 7; plain silent; -> 2",
            "towerOf(0, 5) -> 0");
        b.test("By silent he cries nothing on. .. ADDS: plain: a.", "he ADDS as without RULES", "tower(1, 7, 0, 1)",
            "rules: plain silent; plain add 9; -> 2", "towerOf(0, 5) -> 1", "towerOf(0, 4) -> 7");
    }

    private void towerHeld() {
        String sentence = "6 HELD, 7 CAME (-9: nothing is held). BAD.";
        b.test(sentence, "nothing is held", "ValleyA", "towerOf({0|1|2|3|4|5}, {6|7}) -> -9");
        b.test(sentence, "the HOUR 0, the least, is held", "ValleyA", "cry(0, 0, false)", "towerOf(0, {6|7}) -> 0");
        b.test(sentence, "not where it doesn't come", "ValleyA", "cry(0, 316, true) -> 3", "towerOf(2, 6) -> 338", "towerOf(2, 7) -> 350",
            "towerOf(3, {6|7}) -> -9");
        b.test(sentence, "nothing is held any more", "ValleyA", "cry(0, 400, true)", "towerOf(5, 6) -> 470", "towerOf(5, 7) -> 503",
            "hush()", "towerOf(5, {6|7}) -> -9");
        b.test(sentence, "a new TOWER holds nothing, where one held that is gone", "tower(1, 0, 0, 1)", "keep()", "tower(1, 0, 0, 1)",
            "cry(1, 5, true)", "towerOf(1, 6) -> 5", "again()", "tower(1, 0, 0, 1) -> 1", "towerOf(1, {6|7}) -> -9");
    }

    private void change() {
        b.promise(4);
        String sentence = "ADD (what 1), DELAY (2), MILES (3) of a TOWER becomes v: what it was.";
        b.test(sentence, "the least of each", "tower(1, 5, 6, 7)", "change(0, 1, 0) -> 5", "change(0, 2, 0) -> 6", "change(0, 3, 1) -> 7",
            "towerOf(0, {1|2}) -> 0", "towerOf(0, 3) -> 1");
        b.test(sentence, "the greatest of each", "tower(1, 5, 6, 7)", "change(0, 1, 99) -> 5", "change(0, 2, 9) -> 6",
            "change(0, 3, 20) -> 7", "towerOf(0, 1) -> 99", "towerOf(0, 2) -> 9", "towerOf(0, 3) -> 20");
        b.test(sentence, "what it was, the least and the greatest", "tower(1, 0, 0, 1)", "tower(1, 99, 9, 20)", "change(0, 1, 5) -> 0",
            "change(0, 2, 5) -> 0", "change(0, 3, 5) -> 1", "change(1, 1, 5) -> 99", "change(1, 2, 5) -> 9", "change(1, 3, 5) -> 20");
        b.test(sentence, "the first and the last of nine", "9 times: tower(1, 5, 6, 7)", "change(0, 1, 1) -> 5", "change(8, 1, 2) -> 5",
            "towerOf(0, 1) -> 1", "towerOf(8, 1) -> 2", "towerOf({1|7}, 1) -> 5");
    }

    private void changeRefused() {
        String sentence = "ADD (what 1), DELAY (2), MILES (3) of a TOWER becomes v: what it was. BAD.";
        b.test(sentence, "empty: there is no TOWER", "change({0|8}, {1|2|3}, 1) -> -1");
        b.test(sentence, "a number too small", "ValleyA", "change({-1|LOW}, {1|2|3}, 1) -> -1");
        b.test(sentence, "a number too large", "ValleyA", "change({6|9|HIGH}, {1|2|3}, 1) -> -1");
        b.test(sentence, "what too small", "ValleyA", "change(0, {0|-1|LOW}, 1) -> -1", "towerOf(0, 0) -> 1");
        b.test(sentence, "what too large", "ValleyA", "change(0, {4|5|HIGH}, 1) -> -1");
        b.test("ADD (0 to 99 minutes) .. BAD.", "v too small", "ValleyA", "change(1, 1, {-1|LOW}) -> -1", "towerOf(1, 1) -> 10");
        b.test("ADD (0 to 99 minutes) .. BAD.", "v too large", "ValleyA", "change(1, 1, {100|HIGH}) -> -1", "towerOf(1, 1) -> 10");
        b.test("DELAY (0 to 9) .. BAD.", "v too small", "ValleyA", "change(1, 2, {-1|LOW}) -> -1", "towerOf(1, 2) -> 2");
        b.test("DELAY (0 to 9) .. BAD.", "v too large", "ValleyA", "change(1, 2, {10|HIGH}) -> -1", "towerOf(1, 2) -> 2");
        b.test("MILES (1 to 20 .. BAD.", "v too small", "ValleyA", "change(1, 3, {0|-1|LOW}) -> -1", "towerOf(1, 3) -> 5");
        b.test("MILES (1 to 20 .. BAD.", "v too large", "ValleyA", "change(1, 3, {21|HIGH}) -> -1", "towerOf(1, 3) -> 5");
        b.unchanged("such a call changes nothing", "refused", "change(1, 1, {-1|100}) -> -1", "change(1, 2, {-1|10}) -> -1",
            "change(1, 3, {0|21}) -> -1", "change({-1|9}, 1, 1) -> -1", "change(1, {0|4}, 1) -> -1");
    }

    private void turn() {
        b.promise(5);
        String sentence = "A TOWER becomes one of another KIND (1 to 5): the KIND that it was.";
        b.test(sentence, "KIND 1, the least", "tower(5, 0, 0, 1)", "turn(0, 1) -> 5", "towerOf(0, 0) -> 1");
        b.test(sentence, "KIND 5, the greatest", "tower(1, 0, 0, 1)", "turn(0, 5) -> 1", "towerOf(0, 0) -> 5");
        b.test(sentence, "the KINDS between", "tower(1, 0, 0, 1)", "turn(0, 2) -> 1", "turn(0, 3) -> 2", "turn(0, 4) -> 3",
            "turn(0, 1) -> 4");
        b.test(sentence, "the one that it is", "tower(3, 0, 0, 1)", "turn(0, 3) -> 3", "towerOf(0, 0) -> 3");
        b.test(sentence, "the last of nine", "9 times: tower(1, 0, 0, 1)", "turn(8, 2) -> 1", "towerOf(8, 0) -> 2", "towerOf(7, 0) -> 1");
        b.test(sentence, "all else is left, what is held, too", "ValleyA", "cry(1, 400, true)", "turn(1, 4) -> 1", "towerOf(1, 1) -> 10",
            "towerOf(1, 2) -> 2", "towerOf(1, 3) -> 5", "towerOf(1, {6|7}) -> 400");
        b.test(sentence + " BAD.", "too small: KIND 0", "ValleyA", "turn(0, {0|-1|LOW}) -> -1", "towerOf(0, 0) -> 1");
        b.test(sentence + " BAD.", "too large: KIND 6", "ValleyA", "turn(0, {6|HIGH}) -> -1", "towerOf(0, 0) -> 1");
        b.test(sentence + " BAD.", "empty: there is no TOWER", "turn(0, 1) -> -1");
        b.test(sentence + " BAD.", "a number too small, too large", "ValleyA", "turn({-1|LOW|6|9|HIGH}, 1) -> -1");
        b.unchanged("such a call changes nothing", "refused", "turn(0, {0|6}) -> -1", "turn({-1|9}, 2) -> -1");
    }

    private void day() {
        b.promise(6);
        String sentence = "The DAY becomes v: what it was.";
        b.test(sentence, "6, the greatest, and 0, the least", "day(6) -> 0", "day(0) -> 6", "day(3) -> 0", "day(3) -> 3");
        b.test(sentence + " BAD. .. DAY is 0 to 6", "too small", "day(2)", "day({-1|LOW}) -> -1", "day(0) -> 2");
        b.test(sentence + " BAD. .. DAY is 0 to 6", "too large", "day(2)", "day({7|HIGH}) -> -1", "day(0) -> 2");
        b.unchanged("such a call changes nothing", "refused", "day({-1|7}) -> -1");
    }

    private void wind() {
        b.promise(7);
        String sentence = "WIND of a DAY becomes v: what it was, and 100 more.";
        b.test(sentence, "-3, the least", "wind(0, -3) -> 100", "wind(0, 0) -> 97");
        b.test(sentence, "3, the greatest", "wind(0, 3) -> 100", "wind(0, 0) -> 103");
        b.test(sentence, "the first DAY and the last, each its own", "wind(0, 1)", "wind(6, 2)", "wind(0, 0) -> 101", "wind(6, 0) -> 102",
            "wind({1|5}, 0) -> 100");
        b.test(sentence + " BAD. .. WIND of each DAY -3 to 3", "v too small", "wind(0, {-4|LOW}) -> -1", "wind(0, 0) -> 100");
        b.test(sentence + " BAD. .. WIND of each DAY -3 to 3", "v too large", "wind(0, {4|HIGH}) -> -1", "wind(0, 0) -> 100");
        b.test(sentence + " BAD. .. DAY is 0 to 6", "a DAY too small", "wind({-1|LOW}, 1) -> -1");
        b.test(sentence + " BAD. .. DAY is 0 to 6", "a DAY too large", "wind({7|HIGH}, 1) -> -1");
        b.unchanged("such a call changes nothing", "refused", "wind({-1|7}, 0) -> -1", "wind(2, {-4|4}) -> -1");
    }

    private void pace() {
        b.promise(8);
        String sentence = "Minutes a mile today, to the west or to the east. .. A cry takes 4 minutes a mile, and WIND more to the "
            + "west, less to the east.";
        b.test(sentence, "WIND 0", "pace({true|false}) -> 4");
        b.test(sentence, "WIND 3, the greatest", "wind(0, 3)", "pace(true) -> 7", "pace(false) -> 1");
        b.test(sentence, "WIND -3, the least", "wind(0, -3)", "pace(true) -> 1", "pace(false) -> 7");
        b.test(sentence, "that of today, not of the next DAY", "wind(1, 3)", "wind(6, -3)", "pace({true|false}) -> 4", "day(6)",
            "pace(true) -> 1", "day(1)", "pace(true) -> 7");
        b.unchanged("Minutes a mile today", "asking changes nothing", "pace({true|false})");
    }
}
