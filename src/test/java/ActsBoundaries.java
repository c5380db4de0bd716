/** Boundary cases of promise 47: acts of things by their KINDS; and of promises 50 and 51, what is kept. */
final class ActsBoundaries {
    private static final String PLAIN = "tower(1, 0, 0, 1)";
    private final Boundaries b;

    ActsBoundaries(Boundaries b) {
        this.b = b;
    }

    void all() {
        acts();
        bodies();
        parts();
        partedBy0();
        wraps();
        noAct();
        keep();
        keepNot();
        again();
    }

    /** A TOWER of a KIND, of number 2 and DELAY 1, on SHELF 0, ahead of calls. */
    private static String[] third(int kind, String... calls) {
        String[] run = new String[calls.length + 3];
        run[0] = "2 times: tower(1, 0, 0, 1)";
        run[1] = "tower(" + kind + ", 0, 1, 1)";
        run[2] = "shelf(0, 0, 2)";
        System.arraycopy(calls, 0, run, 3, calls.length);
        return run;
    }

    private void acts() {
        b.promise(47);
        String sentence = "An ACT (0 to 3) of the thing on a SHELF, with x. .. ACTS of a thing by its KIND, with a number x (ints that "
            + "wrap): 0 cries, 1 hears, 2 shares, 3 tells.";
        b.test(sentence, "ACT 0, the first, and 3, the last, on the first SHELF and the last", PLAIN, "tower(1, 0, 0, 1)", "shelf(0, 0, 1)",
            "shelf(3, 0, 1)", "act({0|3}, 0, 5) -> 18", "act({0|3}, 1, 5) -> 36", "act({0|3}, 2, 5) -> -5", "act({0|3}, 3, 5) -> 36");
        b.test("A TOWER is held as a thing of its KIND; n: its number, a: its DELAY.", "n 0 and a 9", "tower(2, 0, 9, 1)", "shelf(0, 0, 0)",
            "act(0, 0, 5) -> 5", "act(0, 1, 5) -> 1", "act(0, 2, 9) -> 1", "act(0, 3, 5) -> 8");
        b.test("A TOWER is held as a thing of its KIND; n: its number, a: its DELAY.", "n 8 and a 0", "8 times: " + PLAIN,
            "tower(2, 0, 0, 1)", "shelf(0, 0, 8)", "act(0, 0, 5) -> 13", "act(0, 1, 5) -> 26", "act(0, 2, 8) -> -1", "act(0, 3, 5) -> 26");
        b.test("A TOWER is held as a thing of its KIND; n: its number, a: its DELAY.", "the greatest of both", "8 times: " + PLAIN,
            "tower(3, 0, 9, 1)", "shelf(0, 0, 8)", "act(0, 0, 0) -> 0", "act(0, 2, -5) -> -5", "act(0, 3, 0) -> 6");
    }

    private void bodies() {
        b.test("BODIES, each with its number: watchman: 10 cries: x + n. 11 hears: cries(x) * 2. .. 13 tells: hears(x) ^ a. .. 20 "
            + "" + "cries: super.cries(x) * 3.",
            "plain", third(1, "act(0, 0, 5) -> 21", "trace(0) -> 20", "trace(1) -> 10", "act(0, 1, 5) -> 42", "trace(0) -> 11",
            "trace(1) -> 20", "trace(2) -> 10", "act(0, 3, 5) -> 43", "trace(0) -> 13", "trace(1) -> 11", "trace(2) -> 20",
            "trace(3) -> 10", "many(6) -> 4"));
        b.test("plain: 20 cries: super.cries(x) * 3. proud: 30 hears: super.hears(x) - a.", "proud", third(2, "act(0, 0, 5) -> 7",
            "trace(0) -> 10", "act(0, 1, 5) -> 13", "trace(0) -> 30", "trace(1) -> 11", "trace(2) -> 10", "act(0, 3, 5) -> 12",
            "trace(0) -> 13", "trace(1) -> 30", "trace(2) -> 11", "trace(3) -> 10", "many(6) -> 4"));
        b.test("mender: 40 shares: super.shares(x + 1).", "mender", third(4, "act(0, 2, 5) -> -6", "trace(0) -> 40", "trace(1) -> 12",
            "many(6) -> 2", "act(0, 1, 5) -> 14", "trace(0) -> 11", "act(0, 3, 5) -> 15"));
        b.test("drunk: 50 cries: super.cries(x) ^ n. 51 tells: super.tells(x) + shares(n).", "drunk: left first", third(3,
            "act(0, 0, 5) -> 5", "trace(0) -> 50", "trace(1) -> 10", "act(0, 1, 5) -> 9", "trace(0) -> 30", "trace(1) -> 11",
            "trace(2) -> 50", "trace(3) -> 10", "act(0, 3, 5) -> 6", "trace(0) -> 51", "trace(1) -> 13", "trace(2) -> 30", "trace(3) -> 11",
            "trace(4) -> 50", "trace(5) -> 10", "trace(6) -> 12", "many(6) -> 7"));
        b.test("sleeper: 60 hears: 0 - super.hears(x). 61 shares: super.shares(x) + cries(a).", "sleeper: left first", third(5,
            "act(0, 1, 5) -> -14", "trace(0) -> 60", "trace(1) -> 11", "trace(2) -> 10", "act(0, 2, 5) -> -3", "trace(0) -> 61",
            "trace(1) -> 40", "trace(2) -> 12", "trace(3) -> 10", "many(6) -> 4", "act(0, 3, 5) -> -13", "trace(0) -> 13", "trace(1) -> 60",
            "trace(2) -> 11", "trace(3) -> 10"));
    }

    private void parts() {
        String sentence = "12 shares: x by (a - n), the rest away .. Quotients are cut towards 0.";
        b.test(sentence, "by 7: one below a whole, a whole, and below 0", third(1, "change(2, 2, 9)", "act(0, 2, 6) -> 0",
            "act(0, 2, 7) -> 1", "act(0, 2, 13) -> 1", "act(0, 2, -6) -> 0", "act(0, 2, -7) -> -1", "act(0, 2, -13) -> -1",
            "act(0, 2, 0) -> 0"));
        b.test(sentence, "by -2: a divisor below 0", third(1, "change(2, 2, 0)", "act(0, 2, 3) -> -1", "act(0, 2, -3) -> 1",
            "act(0, 2, 1) -> 0", "act(0, 2, -1) -> 0"));
        b.test(sentence, "by 1 and by -1, on either side of 0", third(1, "act(0, 2, 5) -> -5", "change(2, 2, 3)", "act(0, 2, 5) -> 5",
            "change(2, 2, 2)", "act(0, 2, 5) -> -15"));
    }

    private void partedBy0() {
        String sentence = "(-15 if these are the same; that is all that act() answers then) .. -15 parted by 0";
        b.test(sentence, "n 0 and a 0", PLAIN, "shelf(0, 0, 0)", "act(0, 2, {0|5|LOW|HIGH}) -> -15");
        b.test(sentence, "n 8 and a 8", "8 times: " + PLAIN, "tower(2, 0, 8, 1)", "shelf(0, 0, 8)", "act(0, 2, 5) -> -15",
            "change(8, 2, 9)", "act(0, 2, 5) -> 5", "change(8, 2, 7)", "act(0, 2, 5) -> -5");
        b.test(sentence, "each KIND that shares", "tower(1, 0, 0, 1)", "shelf(0, 0, 0)", "act(0, 2, 5) -> -15", "turn(0, 2)",
            "act(0, 2, 5) -> -15", "turn(0, 3)", "act(0, 2, 5) -> -15", "turn(0, 4)", "act(0, 2, 5) -> -15", "turn(0, 5)",
            "act(0, 2, 5) -> -15");
        b.test(sentence, "a drunk that tells; what he told ahead of it counts nothing", "tower(3, 0, 0, 1)", "shelf(0, 0, 0)",
            "act(0, 3, 5) -> -15", "act(0, 1, 5) -> 10");
        b.test(sentence, "the others tell, cry and hear all the same", PLAIN, "shelf(0, 0, 0)", "act(0, 0, 5) -> 15", "act(0, 1, 5) -> 30",
            "act(0, 3, 5) -> 30");
        b.test(sentence + " .. THE TRACE: numbers of the bodies that ran in the latest act(), as they began",
            "the bodies that began ahead of it, none behind it", "tower(5, 0, 0, 1)", "shelf(0, 0, 0)", "act(0, 2, 5) -> -15",
            "trace(0) -> 61", "trace(1) -> 40", "trace(2) -> 12", "many(6) -> 3");
    }

    private void wraps() {
        String sentence = "with a number x (ints that wrap)";
        b.test(sentence, "plain: x + n, times 3, times 2", third(1, "act(0, 0, HIGH) -> -2147483645", "act(0, 1, HIGH) -> 6",
            "act(0, 3, HIGH) -> 7"));
        b.test(sentence, "the least int by -1 is itself", third(1, "act(0, 2, LOW) -> -2147483648", "act(0, 2, HIGH) -> -2147483647"));
        b.test(sentence, "proud: less a", third(2, "act(0, 0, HIGH) -> -2147483647", "act(0, 1, HIGH) -> 1",
            "act(0, 1, 1073741822) -> 2147483647", "act(0, 3, HIGH) -> 0"));
        b.test(sentence, "drunk: ^ n, and the sum that he tells", third(3, "act(0, 0, HIGH) -> -2147483645",
            "act(0, 3, 1073741825) -> 2147483646"));
        b.test(sentence, "mender: x + 1", third(4, "act(0, 2, HIGH) -> -2147483648", "act(0, 2, LOW) -> 2147483647"));
        b.test(sentence, "sleeper: 0 - the least int, and the sum that he shares", third(5, "act(0, 1, 1073741822) -> -2147483648",
            "act(0, 2, HIGH) -> -2147483645", "act(0, 2, LOW) -> -2147483646"));
    }

    private void noAct() {
        String sentence = "0, and no TRACE then: no such SHELF, act, nothing, a row.";
        b.test(sentence, "a SHELF too small, too large", third(1, "act(0, 0, 5) -> 21", "act(-1, 0, 5) -> 0", "many(6) -> 0",
            "act(0, 0, 5)", "act(4, 0, 5) -> 0", "many(6) -> 0", "act({LOW|HIGH}, 0, 5) -> 0"));
        b.test(sentence, "an act too small, too large", third(1, "act(0, 0, 5) -> 21", "act(0, -1, 5) -> 0", "many(6) -> 0", "act(0, 0, 5)",
            "act(0, 4, 5) -> 0", "many(6) -> 0", "act(0, {LOW|HIGH}, 5) -> 0"));
        b.test(sentence, "nothing", third(1, "act(0, 0, 5) -> 21", "act(1, 0, 5) -> 0", "many(6) -> 0", "trace(0) -> -3"));
        b.test(sentence, "a row", third(1, "sheet(0, 0, 1)", "shelf(1, 1, 0)", "act(0, 0, 5) -> 21", "act(1, 0, 5) -> 0", "many(6) -> 0"));
        b.test(sentence + " .. nothing, if there is no such one at the time", "a TOWER that is gone", "keep()", PLAIN, "shelf(0, 0, 0)",
            "act(0, 0, 5) -> 15", "again()", "act(0, 0, 5) -> 0", "many(6) -> 0");
        b.unchanged("An ACT (0 to 3) of the thing on a SHELF, with x.", "it changes nothing but THE TRACE: the same act() once more",
            "act(0, 3, 5)");
    }

    private void keep() {
        b.promise(50);
        String sentence = "All but THE TAPE, ROWS, SHEETS, SHELVES, THE TRACE is kept: 1.";
        b.test(sentence, "empty: nothing but a new object is kept", "keep() -> 1", PLAIN, "day(3)", "again() -> 0", "many(0) -> 0",
            "day(0) -> 0");
        b.test(sentence, "full: nine TOWERS, eight RULES, six REPORTS", "9 times: tower(5, 99, 9, 20)",
            "rules: " + "watchman add 1;".repeat(8), "6 times: report(8, 9999)", "keep() -> 1", "rules() -> 0", "forget()", "turn(8, 1)",
            "change(8, 1, 0)", "change(8, 2, 0)", "change(8, 3, 1)", "again() -> 9", "many(1) -> 8", "many(2) -> 6", "towerOf(8, 0) -> 5",
            "towerOf(8, 1) -> 99", "towerOf(8, 2) -> 9", "towerOf(8, 3) -> 20", "towerOf(8, 4) -> 10");
        b.test(sentence, "DAY, WIND and z are kept, the least and the greatest", "day(6)", "wind(0, -3)", "wind(6, 3)", "seed(LOW)",
            "keep() -> 1", "day(0)", "wind({0|6}, 0)", "seed(5)", "again() -> 0", "day(0) -> 6", "wind(0, 0) -> 97", "wind(6, 0) -> 103",
            "seed(0) -> -2147483648");
        b.test(sentence, "HELD and CAME are kept, and that nothing is held", "ValleyA", "cry(0, 316, true)", "keep() -> 1", "hush()",
            "cry(5, 7, true)", "again() -> 6", "many(4) -> 3", "towerOf(2, 6) -> 338", "towerOf(2, 7) -> 350", "towerOf(5, {6|7}) -> -9");
        b.test(sentence, "REPORTS are kept: their TOWERS and HOURS", PLAIN, "tower(1, 10, 0, 5)", "report(1, 17)", "keep() -> 1",
            "forget()", "report(0, 9)", "again() -> 2", "fits(0, 1) -> 7", "fits(0, 0) -> 1");
        b.test(sentence, "the latest alone is kept", PLAIN, "keep() -> 1", PLAIN, "keep() -> 1", PLAIN, "again() -> 2");
        b.test(sentence, "what is now is left", "ValleyA", "report(1, 5)", "cry(0, 316, true)", "wind(0, 2)", "keep() -> 1", "many(0) -> 6",
            "many(2) -> 1", "many(4) -> 3", "towerOf(2, 6) -> 338", "wind(0, 0) -> 102", "seed(1) -> 1");
    }

    private void keepNot() {
        String sentence = "All but THE TAPE, ROWS, SHEETS, SHELVES, THE TRACE is kept: 1.";
        b.test(sentence, "THE TAPE isn't: it goes on", "text: plain", "keep() -> 1", "text:  add 1;", "again() -> 0", "many(5) -> 12",
            "rules() -> 1");
        b.test(sentence, "THE TAPE isn't: it stays used up", "text: plain", "keep() -> 1", "rules() -> -105", "again() -> 0",
            "many(5) -> 0");
        b.test(sentence, "ROWS aren't", "ValleyA", "prove(0, 316, true)", "keep() -> 1", "prove(0, 317, true)", "alterRow(5, 0, 77)",
            "again() -> 6", "many(3) -> 6", "row(5, 0) -> 77");
        b.test(sentence, "SHEETS aren't", "sheet(0, 0, 3)", "keep() -> 1", "write(0, 2, 7)", "sheet(1, 4, 2)", "again() -> 0",
            "item(0, 0, 2) -> 7", "item(1, 4, 1) -> 0");
        b.test(sentence, "SHELVES aren't", PLAIN, "sheet(0, 0, 3)", "shelf(0, 0, 0)", "keep() -> 1", "shelf(0, 2, 0)", "shelf(1, 1, 0)",
            "again() -> 1", "taken(0, 0) -> -11", "taken(1, 10) -> 3");
        b.test(sentence, "THE TRACE isn't", PLAIN, "shelf(0, 0, 0)", "act(0, 3, 5)", "keep() -> 1", "act(0, 0, 5)", "again() -> 1",
            "many(6) -> 2", "trace(0) -> 20");
    }

    private void again() {
        b.promise(51);
        String sentence = "It becomes what was kept latest (which stays): how many TOWERS. NONE: nothing is kept.";
        b.test(sentence, "NONE: nothing is kept yet", "again() -> -3", PLAIN, "day(3)", "again() -> -3", "many(0) -> 1", "day(0) -> 3");
        b.test(sentence, "empty: what was kept has no TOWERS", "keep()", "9 times: " + PLAIN, "again() -> 0", "towerOf(0, 0) -> -1",
            "tower(2, 0, 0, 1) -> 0");
        b.test(sentence, "full: nine TOWERS, from none", "9 times: " + PLAIN, "keep()", "again() -> 9", "tower(1, 0, 0, 1) -> -2");
        b.test(sentence, "it stays: once more, after changes", PLAIN, "keep()", "change(0, 1, 9)", "again() -> 1", "towerOf(0, 1) -> 0",
            "change(0, 1, 8)", PLAIN, "wind(0, 3)", "report(0, 0)", "rules: plain silent;", "cry(0, 5, true)", "seed(7)", "day(2)",
            "again() -> 1", "towerOf(0, 1) -> 0", "towerOf(0, {6|7}) -> -9", "many({1|2|4}) -> 0", "seed(1) -> 1", "day(0) -> 0",
            "wind(0, 0) -> 100");
        b.test(sentence, "conditions and all of RULES that were longer, and shorter", PLAIN,
            "rules: plain if day = 0 and wind = 3 silent; plain if day = 1 add 5; -> 2", "keep()", "rules: plain add 1; -> 1",
            "again() -> 1", "towerOf(0, 5) -> 1", "day(1)", "towerOf(0, 4) -> 5", "towerOf(0, 5) -> 0", "day(2)", "towerOf(0, 4) -> 0",
            "many(1) -> 2");
    }
}
