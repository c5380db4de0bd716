/** Boundary cases of promises 33 to 40: REPORTS, and ROWS. */
final class ReportsBoundaries {
    private static final String PLAIN = "tower(1, 0, 0, 1)";
    private static final String ASKING = "such a call changes nothing";
    private final Boundaries b;

    ReportsBoundaries(Boundaries b) {
        this.b = b;
    }

    void all() {
        report();
        forget();
        fits();
        fitsNone();
        liar();
        liarNone();
        prove();
        row();
        alterRow();
        judge();
        judgeFirst();
        judgeOthers();
    }

    private void report() {
        b.promise(33);
        String sentence = "A REPORT: its number. .. A REPORT (6 at most): a TOWER, an HOUR (0 to 9999) that it is told to have HELD.";
        b.test(sentence, "the HOUR 0, the least, and 9999, the greatest", PLAIN, "report(0, 0) -> 0", "report(0, 9999) -> 1",
            "many(2) -> 2");
        b.test(sentence, "the first TOWER and the last of nine", "9 times: " + PLAIN, "report(0, 5) -> 0", "report(8, 5) -> 1");
        b.test(sentence, "full: six, the same one, too", PLAIN, "report(0, 1) -> 0", "report(0, 1) -> 1", "3 times: report(0, 1)",
            "report(0, 1) -> 5", "many(2) -> 6");
        b.test(sentence + " .. BAD; FULL.", "FULL: the seventh", PLAIN, "6 times: report(0, 1)", "report(0, 1) -> -2", "many(2) -> 6",
            "fits(0, 1) -> 1");
        b.test(sentence + " .. BAD; FULL.", "BAD: an HOUR too small", PLAIN, "report(0, {-1|LOW}) -> -1", "many(2) -> 0");
        b.test(sentence + " .. BAD; FULL.", "BAD: an HOUR too large", PLAIN, "report(0, {10000|HIGH}) -> -1", "many(2) -> 0");
        b.test(sentence + " .. BAD; FULL.", "BAD: empty, there is no TOWER", "report(0, 0) -> -1");
        b.test(sentence + " .. BAD; FULL.", "BAD: a number too small, too large", "ValleyA", "report({-1|LOW|6|9|HIGH}, 0) -> -1",
            "many(2) -> 0");
        b.test("of several the first named .. BAD; FULL.", "the seventh, and not as told", PLAIN, "6 times: report(0, 1)",
            "report({-1|1}, 1) -> -1", "report(0, {-1|10000}) -> -1");
        b.unchanged(ASKING, "refused", "report(0, 0) -> -2", "report({-1|9}, 0) -> -1", "report(0, {-1|10000}) -> -1");
    }

    private void forget() {
        b.promise(34);
        String sentence = "There are no REPORTS: how many there were.";
        b.test(sentence, "empty: none", "forget() -> 0", "many(2) -> 0");
        b.test(sentence, "full: six, and it can be told anew", PLAIN, "6 times: report(0, 1)", "forget() -> 6", "many(2) -> 0",
            "fits(0, 0) -> 1440", "report(0, 7) -> 0", "fits(0, 1) -> 7");
        b.test(sentence, "twice", PLAIN, "report(0, 1)", "forget() -> 1", "forget() -> 0");
    }

    private void fits() {
        b.promise(35);
        String sentence = "FITS from a TOWER: what = 0 how many, 1 the first, 2 the last. .. FITS from a TOWER: those t by which a CRY "
            + "from there makes each of these HOLD just that.";
        b.test(sentence, "empty: no REPORTS, all t fit", PLAIN, "fits(0, 0) -> 1440", "fits(0, 1) -> 0", "fits(0, 2) -> 1439");
        b.test(sentence, "t 0, the least", PLAIN, "tower(1, 10, 0, 5)", "report(1, 10)", "fits(0, 0) -> 1", "fits(0, {1|2}) -> 0");
        b.test(sentence, "t 1439, the greatest", PLAIN, "tower(1, 10, 0, 5)", "report(1, 1449)", "fits(0, 0) -> 1",
            "fits(0, {1|2}) -> 1439");
        b.test(sentence, "one below the least, one above the greatest", PLAIN, "tower(1, 10, 0, 5)", "report(1, 9)", "fits(0, 0) -> 0",
            "forget()", "report(1, 1450)", "fits(0, 0) -> 0");
        b.test(sentence, "each of them: two that agree, then one by one off", PLAIN, "tower(1, 10, 0, 5)", "report(0, 7)", "report(1, 17)",
            "fits(0, 1) -> 7", "report(1, 18)", "fits(0, 0) -> 0");
        b.test(sentence, "each of them: six, the last alone is off", PLAIN, "5 times: report(0, 7)", "fits(0, 0) -> 1", "report(0, 8)",
            "fits(0, 0) -> 0");
        b.test(sentence + " .. (a sleeper none that comes ahead of MINUTE 360)", "MINUTE 359 and 360", PLAIN, "tower(5, 10, 0, 5)",
            "report(1, 349)", "fits(0, 0) -> 0", "forget()", "report(1, 350)", "fits(0, 1) -> 340");
        b.test("where it is asked from a TOWER, without a way, it goes both ways.", "a REPORT to the east and one to the west", "ValleyA",
            "report(0, 122)", "report(5, 141)", "fits(3, 0) -> 1", "fits(3, 1) -> 100");
        b.test(sentence, "what the TOWERS HELD by cry() counts nothing", PLAIN, "cry(0, 5, true)", "report(0, 6)", "fits(0, 1) -> 6");
    }

    private void fitsNone() {
        String sentence = "what = 0 how many, 1 the first, 2 the last. BAD; NONE: there are none.";
        b.test(sentence, "NONE: no first and no last; how many: 0", PLAIN, "report(0, 1440)", "fits(0, 0) -> 0", "fits(0, {1|2}) -> -3");
        b.test(sentence, "BAD: what too small, too large", "ValleyA", "fits(0, {-1|LOW|3|HIGH}) -> -1");
        b.test(sentence, "BAD: empty, there is no TOWER", "fits(0, {0|1|2}) -> -1");
        b.test(sentence, "BAD: a number too small, too large", "ValleyA", "fits({-1|LOW|6|9|HIGH}, {0|1|2}) -> -1");
        b.test("of several the first named .. BAD; NONE: there are none.", "both", PLAIN, "report(0, 1440)", "fits(0, {-1|3}) -> -1",
            "fits(1, 1) -> -1");
        b.unchanged("What else is asked of a CRY changes nothing", "refused, and answered", "fits(0, 0) -> 0", "fits(0, {1|2}) -> -3",
            "fits({-1|9}, 0) -> -1", "fits(0, {-1|3}) -> -1");
    }

    private void liar() {
        b.promise(36);
        String sentence = "LIAR by CRIES from a TOWER. .. LIAR: if none FITS, the least REPORT but for which some would.";
        b.test(sentence, "one REPORT, that none fits", PLAIN, "report(0, 1440)", "liar(0) -> 0");
        b.test(sentence, "two: but for either some would; the least", PLAIN, "report(0, 7)", "report(0, 8)", "liar(0) -> 0");
        b.test(sentence, "the last of six", PLAIN, "5 times: report(0, 7)", "report(0, 8)", "liar(0) -> 5");
        b.test(sentence, "the first of six", PLAIN, "report(0, 8)", "5 times: report(0, 7)", "liar(0) -> 0");
        b.test(sentence, "but for which t 0 alone would, t 1439 alone", PLAIN, "tower(1, 10, 0, 5)", "report(1, 10)", "report(0, 0)",
            "report(0, 1)", "liar(0) -> 2", "forget()", "report(1, 1449)", "report(0, 1438)", "report(0, 1439)", "liar(0) -> 1");
        b.test(sentence, "one that it never comes to", PLAIN, PLAIN, PLAIN, "rules: plain if number = 1 silent;", "report(0, 7)",
            "report(2, 7)", "liar(0) -> 1");
        b.test(sentence, "from another TOWER another one", PLAIN, "tower(1, 10, 0, 5)", "report(0, 7)", "report(1, 17)", "report(1, 7)",
            "liar(0) -> 2", "liar(1) -> 1");
    }

    private void liarNone() {
        String sentence = "BAD; NONE: some FIT; or there is no such REPORT.";
        b.test(sentence, "NONE: empty, without REPORTS all t fit", PLAIN, "liar(0) -> -3");
        b.test(sentence, "NONE: some fit, t 0 and t 1439, too", PLAIN, "report(0, 0)", "liar(0) -> -3", "forget()", "report(0, 1439)",
            "liar(0) -> -3");
        b.test(sentence, "NONE: two against two", PLAIN, "2 times: report(0, 7)", "2 times: report(0, 8)", "liar(0) -> -3");
        b.test(sentence, "NONE: three, each another", PLAIN, "report(0, 7)", "report(0, 8)", "report(0, 9)", "liar(0) -> -3");
        b.test(sentence, "NONE: two that none fits", PLAIN, "report(0, 7)", "2 times: report(0, 1440)", "liar(0) -> -3");
        b.test(sentence, "BAD: empty, there is no TOWER", "liar(0) -> -1");
        b.test(sentence, "BAD: a number too small, too large", "ValleyA", "liar({-1|LOW|6|9|HIGH}) -> -1");
        b.unchanged("What else is asked of a CRY changes nothing", "refused, and answered", "liar(0) -> 5", "liar({-1|9}) -> -1");
    }

    private void prove() {
        b.promise(37);
        String sentence = "ROWS of a CRY from a TOWER at t one way: how many. .. ROWS of a CRY: (TOWER, the MINUTE in which it came, "
            + "the HOUR HELD), from where it began on.";
        b.test(sentence, "one: from the last to the west, from the first to the east", "ValleyA", "prove(5, 7, true) -> 1",
            "row(0, 0) -> 5", "row(0, {1|2}) -> 7", "prove(0, 8, false) -> 1", "row(0, 0) -> 0", "row(0, {1|2}) -> 8", "many(3) -> 1");
        b.test(sentence, "all, to the west", "ValleyA", "prove(0, 400, true) -> 6", "row(0, 0) -> 0", "row(5, 0) -> 5", "row(5, 1) -> 503",
            "row(5, 2) -> 470");
        b.test(sentence, "all of nine, to the east: the first ROW tells the last TOWER", "9 times: " + PLAIN, "prove(8, 0, false) -> 9",
            "row(0, 0) -> 8", "row(8, 0) -> 0", "row(8, 1) -> 32", "row(8, 2) -> 0", "many(3) -> 9");
        b.test(sentence, "as far as it comes", "ValleyA", "prove(0, 316, true) -> 3", "prove(0, 317, true) -> 6", "prove(0, 0, true) -> 3",
            "row(3, 0) -> -9");
        b.test(sentence, "t 0 and t 1439", PLAIN, PLAIN, "prove(0, 0, true) -> 2", "row(1, 1) -> 4", "prove(0, 1439, true) -> 2",
            "row(1, 1) -> 1443", "row(1, 2) -> 1439");
        b.test(sentence, "nothing is HELD by it", "ValleyA", "prove(0, 400, true)", "many(4) -> 0");
        b.test(sentence + " .. BAD.", "empty: there is no TOWER", "prove(0, 0, {true|false}) -> -1", "many(3) -> 0");
        b.test(sentence + " .. BAD.", "a number too small, too large", "ValleyA", "prove({-1|LOW|6|9|HIGH}, 0, {true|false}) -> -1",
            "many(3) -> 0");
        b.test(sentence + " .. BAD.", "t too small, too large", "ValleyA", "prove(0, 0, true)", "prove(0, {-1|LOW|1440|HIGH}, true) -> -1",
            "many(3) -> 3");
        b.unchanged(ASKING, "refused: ROWS are left", "prove({-1|9}, 0, true) -> -1", "prove(0, {-1|1440}, {true|false}) -> -1");
    }

    private void row() {
        b.promise(38);
        String sentence = "Of ROW i: what = 0 TOWER, 1 MINUTE, 2 HOUR. -9: there is none such, another what.";
        b.test(sentence, "the first and the last", "ValleyA", "prove(0, 400, true)", "row(0, 0) -> 0", "row(0, {1|2}) -> 400",
            "row(5, 0) -> 5", "row(5, 1) -> 503", "row(5, 2) -> 470");
        b.test(sentence, "empty: there is none", "ValleyA", "row(0, {0|1|2}) -> -9");
        b.test(sentence, "i too small, too large", "ValleyA", "prove(0, 400, true)", "row({-1|LOW|6|9|HIGH}, {0|1|2}) -> -9");
        b.test(sentence, "too large for fewer ROWS than there were", "ValleyA", "prove(0, 400, true)", "prove(0, 100, true) -> 3",
            "row(2, 0) -> 2", "row(3, 0) -> -9");
        b.test(sentence, "what too small, too large", "ValleyA", "prove(0, 400, true)", "row(0, {-1|LOW|3|HIGH}) -> -9");
        b.unchanged(ASKING, "refused, and answered", "row(0, 0) -> 1", "row({-1|9}, 0) -> -9", "row(0, {-1|3}) -> -9");
    }

    private void alterRow() {
        b.promise(39);
        String sentence = "It becomes v: what it was. -9 likewise.";
        b.test(sentence, "the first and the last of each ROW", "ValleyA", "prove(0, 400, true)", "alterRow(0, 0, 7) -> 0",
            "alterRow(5, 2, 8) -> 470", "row(0, 0) -> 7", "row(5, 2) -> 8", "row(5, 1) -> 503");
        b.test(sentence, "the least and the greatest int", "ValleyA", "prove(0, 400, true)", "alterRow(1, 1, LOW) -> 420",
            "alterRow(1, 1, HIGH) -> -2147483648", "row(1, 1) -> 2147483647");
        b.test(sentence, "what it was may be -9", "ValleyA", "prove(0, 400, true)", "alterRow(1, 1, -9) -> 420", "alterRow(1, 1, 5) -> -9",
            "row(1, 1) -> 5");
        b.test(sentence, "empty: there is none", "ValleyA", "alterRow(0, {0|1|2}, 1) -> -9", "many(3) -> 0");
        b.test(sentence, "i too small, too large", "ValleyA", "prove(0, 316, true)", "alterRow({-1|LOW|3|9|HIGH}, 0, 1) -> -9");
        b.test(sentence, "what too small, too large", "ValleyA", "prove(0, 316, true)", "alterRow(0, {-1|LOW|3|HIGH}, 1) -> -9",
            "row(0, 0) -> 0", "row(0, {1|2}) -> 316");
        b.unchanged(ASKING, "refused", "alterRow({-1|9}, 0, 5) -> -9", "alterRow(0, {-1|3}, 5) -> -9");
    }

    private void judge() {
        b.promise(40);
        String sentence = "THE READER takes ROWS as those of a CRY one way: 0 all is right; else the first ROW that isn't, and 1 more.";
        b.test(sentence, "empty: no ROW is wrong", "judge({true|false}) -> 0", PLAIN, "judge({true|false}) -> 0");
        b.test(sentence, "all is right, both ways", "ValleyA", "prove(0, 400, true)", "judge(true) -> 0", "prove(5, 400, false)",
            "judge(false) -> 0", "prove(3, 0, false)", "judge(false) -> 0");
        b.test(sentence, "one ROW is right either way", "ValleyA", "prove(5, 7, true)", "judge({true|false}) -> 0");
        b.test(sentence, "the other way the second isn't", "ValleyA", "prove(0, 400, true)", "judge(false) -> 2", "prove(5, 400, false)",
            "judge(true) -> 2");
        b.test(sentence, "the first, the last of nine, and of two the first", "9 times: " + PLAIN, "prove(0, 400, true)",
            "alterRow(8, 2, 401)", "judge(true) -> 9", "alterRow(3, 1, 0)", "judge(true) -> 4", "alterRow(0, 2, 0)", "judge(true) -> 1");
        b.test(sentence, "each ROW, each what, one more and one less", "ValleyA", "prove(0, 400, true)", "alterRow(1, 0, 2)",
            "judge(true) -> 2", "alterRow(1, 0, 0)", "judge(true) -> 2", "alterRow(1, 0, 1)", "alterRow(1, 1, 421)", "judge(true) -> 2",
            "alterRow(1, 1, 419)", "judge(true) -> 2", "alterRow(1, 1, 420)", "alterRow(5, 2, 471)", "judge(true) -> 6",
            "alterRow(5, 2, 469)", "judge(true) -> 6", "alterRow(5, 2, 470)", "judge(true) -> 0");
        b.unchanged(ASKING, "answered", "judge({true|false})");
    }

    private void judgeFirst() {
        String sentence = "THE READER takes ROWS as those of a CRY one way: right is the first one, if it tells a TOWER, a MINUTE 0 to "
            + "1439 and that as the HOUR";
        b.test(sentence, "no TOWER: too small, too large", "ValleyA", "prove(5, 7, true)", "alterRow(0, 0, -1)", "judge({true|false}) -> 1",
            "alterRow(0, 0, 6)", "judge({true|false}) -> 1", "alterRow(0, 0, LOW)", "judge(true) -> 1", "alterRow(0, 0, HIGH)",
            "judge(true) -> 1", "alterRow(0, 0, 0)", "judge({true|false}) -> 0");
        b.test(sentence, "MINUTE 0, the least, and 1439, the greatest", PLAIN, PLAIN, "prove(0, 0, true)", "judge(true) -> 0",
            "prove(0, 1439, true)", "judge(true) -> 0");
        b.test(sentence, "MINUTE -1, too small, though the rest goes with it", PLAIN, PLAIN, "prove(0, 0, true)", "alterRow(0, {1|2}, -1)",
            "alterRow(1, 1, 3)", "alterRow(1, 2, -1)", "judge(true) -> 1");
        b.test(sentence, "MINUTE 1440, too large, though the rest goes with it", PLAIN, PLAIN, "prove(0, 0, true)",
            "alterRow(0, {1|2}, 1440)", "alterRow(1, 1, 1444)", "alterRow(1, 2, 1440)", "judge(true) -> 1");
        b.test(sentence, "MINUTE 1 and 1438, told by hand, the rest with it", PLAIN, PLAIN, "prove(0, 0, true)", "alterRow(0, {1|2}, 1)",
            "alterRow(1, 1, 5)", "alterRow(1, 2, 1)", "judge(true) -> 0", "alterRow(0, {1|2}, 1438)", "alterRow(1, 1, 1442)",
            "alterRow(1, 2, 1438)", "judge(true) -> 0");
        b.test(sentence, "another HOUR, one less, one more", "ValleyA", "prove(5, 7, true)", "alterRow(0, 2, 6)", "judge(true) -> 1",
            "alterRow(0, 2, 8)", "judge(true) -> 1");
        b.test(sentence, "the least and the greatest int", "ValleyA", "prove(5, 7, true)", "alterRow(0, {1|2}, LOW)", "judge(true) -> 1",
            "alterRow(0, {1|2}, HIGH)", "judge(true) -> 1");
    }

    private void judgeOthers() {
        String sentence = "and each other one that the one ahead would bring.";
        b.test(sentence, "the one ahead is the last TOWER, the first TOWER", PLAIN, PLAIN, "prove(0, 5, true)", "alterRow(0, 0, 1)",
            "alterRow(1, 0, 2)", "judge(true) -> 2", "prove(1, 5, false)", "alterRow(0, 0, 0)", "alterRow(1, 0, -1)", "judge(false) -> 2");
        b.test(sentence, "he sleeps at 359, hears at 360", PLAIN, "tower(5, 0, 0, 1)", "prove(0, 356, true) -> 2", "judge(true) -> 0",
            "alterRow(0, {1|2}, 355)", "alterRow(1, 1, 359)", "alterRow(1, 2, 355)", "judge(true) -> 2");
        b.test(sentence, "he sleeps, and the ROW tells -9, as if that were what is held by none", PLAIN, "tower(5, 0, 0, 1)",
            "prove(0, 356, true) -> 2", "alterRow(0, {1|2}, 355)", "alterRow(1, {1|2}, -9)", "judge(true) -> 2");
        b.test(sentence, "the one ahead is silent; where it began that counts nothing", PLAIN, PLAIN, PLAIN, "prove(0, 5, true) -> 3",
            "rules: plain if number = 1 silent;", "judge(true) -> 3", "rules: plain if number = 0 silent;", "judge(true) -> 0");
        b.test(sentence, "his DELAY, not where it began", "tower(1, 0, 9, 1)", "tower(1, 0, 9, 1)", PLAIN, "prove(0, 5, true)",
            "row(1, 1) -> 9", "row(2, 1) -> 22", "judge(true) -> 0", "change(0, 2, 0)", "judge(true) -> 0", "change(1, 2, 8)",
            "judge(true) -> 3");
        b.test(sentence, "there is no such TOWER any more", PLAIN, "keep()", PLAIN, "prove(0, 5, true) -> 2", "prove(1, 5, false) -> 2",
            "again() -> 1", "judge(false) -> 1", "many(3) -> 2");
        b.test(sentence, "ROWS that stop ahead of the last TOWER", PLAIN, "prove(0, 5, true) -> 1", PLAIN, "judge(true) -> 0");
    }
}
