/** Boundary cases of promises 41 to 49: what the host refuses. */
final class HostBoundaries {
    private static final String PLAIN = "tower(1, 0, 0, 1)";
    private static final String REFUSED = "such a call changes nothing";
    private final Boundaries b;

    HostBoundaries(Boundaries b) {
        this.b = b;
    }

    void all() {
        sheet();
        sheetRefused();
        write();
        writeRefused();
        item();
        itemRefused();
        adds();
        addsRefused();
        shelf();
        shelfOfTower();
        shelfRefused();
        taken();
        takenRefused();
        trace();
        many();
    }

    private void sheet() {
        b.promise(41);
        String sentence = "A SHEET becomes a row of n of a sort, all 0, or missing (sort -1; n counts nothing then): 1.";
        b.test(sentence + " .. SHEETS 0 to 3", "the first and the last", "sheet(0, 0, 1) -> 1", "sheet(3, 0, 1) -> 1",
            "item({0|3}, 0, 0) -> 0", "item({1|2}, 0, 0) -> -11");
        b.test(sentence + " .. rows of bytes (sort 0), shorts (1), ints (2), longs (3) or booleans (4)",
            "sort 0, the least, and 4, the greatest", "sheet(0, 0, 1) -> 1", "item(0, 0, 0) -> 0", "sheet(0, 4, 1) -> 1",
            "item(0, 4, 0) -> 0", "item(0, {0|1|2|3}, 0) -> -13");
        b.test(sentence + " .. 40 at most", "n 40, the most, of each sort", "sheet(0, {0|1|2|3|4}, 40) -> 1", "item(0, 4, 39) -> 0",
            "item(0, 4, 40) -> -12");
        b.test(sentence, "n 0, the fewest: an empty row", "sheet(0, 2, 0) -> 1", "item(0, 2, 0) -> -12", "write(0, 0, 1) -> -12");
        b.test(sentence, "all 0, where others stood", "sheet(0, 2, 40)", "write(0, {0|39}, 7)", "sheet(0, 2, 40) -> 1",
            "item(0, 2, {0|39}) -> 0");
        b.test(sentence, "missing: whatever n", "sheet(0, 2, 3)", "sheet(0, -1, {0|-1|LOW|41|HIGH}) -> 1", "item(0, 2, 0) -> -11");
        b.test(sentence, "missing, and a row again: all 0", "sheet(0, 2, 3)", "write(0, 1, 7)", "sheet(0, -1, 0)", "sheet(0, 2, 3) -> 1",
            "item(0, 2, 1) -> 0");
    }

    private void sheetRefused() {
        String sentence = "BAD: no such SHEET, sort, n above 40; -14.";
        b.test(sentence, "BAD: a SHEET too small, too large", "sheet({-1|LOW|4|HIGH}, 0, 1) -> -1", "sheet({-1|4}, -1, 0) -> -1");
        b.test(sentence, "BAD: a sort too small, too large", "sheet(0, {-2|LOW|5|HIGH}, 1) -> -1", "item(0, 0, 0) -> -11");
        b.test(sentence, "BAD: n too large", "sheet(0, {0|4}, {41|HIGH}) -> -1", "item(0, 0, 0) -> -11");
        b.test(sentence + " .. -14 a size below 0", "n too small", "sheet(0, {0|1|2|3|4}, {-1|LOW}) -> -14", "item(0, 0, 0) -> -11");
        b.test("of several the first named .. " + sentence, "no such SHEET or sort, and a size below 0", "sheet({-1|4}, 0, -1) -> -1",
            "sheet(0, {-2|5}, -1) -> -1");
        b.unchanged(REFUSED, "refused", "sheet({-1|4}, 0, 1) -> -1", "sheet(0, {-2|5}, 1) -> -1", "sheet(0, 0, 41) -> -1",
            "sheet(1, 0, -1) -> -14");
    }

    private void write() {
        b.promise(42);
        String sentence = "Item i becomes v, narrowed to its sort (booleans: whether it is not 0): 1.";
        b.test(sentence, "the first and the last item", "sheet(0, 2, 40)", "write(0, 0, 7) -> 1", "write(0, 39, 8) -> 1",
            "item(0, 2, 0) -> 7", "item(0, 2, 39) -> 8", "item(0, 2, {1|38}) -> 0");
        b.test(sentence, "bytes: -128, 127, and beyond: wrap-around", "sheet(0, 0, 1)", "write(0, 0, 127) -> 1", "item(0, 0, 0) -> 127",
            "write(0, 0, 128) -> 1", "item(0, 0, 0) -> -128", "write(0, 0, -128) -> 1", "item(0, 0, 0) -> -128", "write(0, 0, -129) -> 1",
            "item(0, 0, 0) -> 127", "write(0, 0, 256) -> 1", "item(0, 0, 0) -> 0", "write(0, 0, HIGH) -> 1", "item(0, 0, 0) -> -1",
            "write(0, 0, LOW) -> 1", "item(0, 0, 0) -> 0");
        b.test(sentence, "shorts: -32768, 32767, and beyond: wrap-around", "sheet(0, 1, 1)", "write(0, 0, 32767) -> 1",
            "item(0, 1, 0) -> 32767", "write(0, 0, 32768) -> 1", "item(0, 1, 0) -> -32768", "write(0, 0, -32768) -> 1",
            "item(0, 1, 0) -> -32768", "write(0, 0, -32769) -> 1", "item(0, 1, 0) -> 32767", "write(0, 0, 65536) -> 1",
            "item(0, 1, 0) -> 0", "write(0, 0, HIGH) -> 1", "item(0, 1, 0) -> -1", "write(0, 0, LOW) -> 1", "item(0, 1, 0) -> 0");
        b.test(sentence, "ints: the least and the greatest", "sheet(0, 2, 1)", "write(0, 0, LOW) -> 1", "item(0, 2, 0) -> -2147483648",
            "write(0, 0, HIGH) -> 1", "item(0, 2, 0) -> 2147483647");
        b.test(sentence, "longs: the least and the greatest int", "sheet(0, 3, 1)", "write(0, 0, LOW) -> 1", "item(0, 3, 0) -> -2147483648",
            "write(0, 0, HIGH) -> 1", "item(0, 3, 0) -> 2147483647", "write(0, 0, -1) -> 1", "item(0, 3, 0) -> -1");
        b.test(sentence, "booleans: 0; 1, -1, 2, 256, the least and the greatest int", "sheet(0, 4, 7)", "write(0, 0, 1)",
            "write(0, 0, 0) -> 1", "item(0, 4, 0) -> 0", "write(0, 1, 1) -> 1", "write(0, 2, -1) -> 1", "write(0, 3, 2) -> 1",
            "write(0, 4, 256) -> 1", "write(0, 5, LOW) -> 1", "write(0, 6, HIGH) -> 1", "item(0, 4, {1|2|3|4|5|6}) -> 1");
    }

    private void writeRefused() {
        String sentence = "BAD: no such SHEET; -11; -12.";
        b.test(sentence, "BAD: too small, too large", "write({-1|LOW|4|HIGH}, 0, 1) -> -1");
        b.test(sentence + " .. -11 nothing where something is asked", "missing at first, and again", "write({0|3}, 0, 1) -> -11",
            "sheet(0, 0, 3)", "write(0, 0, 1) -> 1", "sheet(0, -1, 0)", "write(0, 0, 1) -> -11");
        b.test(sentence + " .. -12 a place outside", "i too small", "sheet(0, {0|1|2|3|4}, 3)", "write(0, {-1|LOW}, 1) -> -12");
        b.test(sentence + " .. -12 a place outside", "i too large", "sheet(0, 2, 3)", "write(0, 2, 1) -> 1",
            "write(0, {3|40|HIGH}, 1) -> -12");
        b.test(sentence + " .. -12 a place outside", "an empty row, a row that was longer", "sheet(0, 2, 40)", "sheet(0, 2, 0)",
            "write(0, 0, 1) -> -12", "sheet(0, 2, 1)", "write(0, 1, 1) -> -12");
        b.test("of several the first named .. " + sentence, "missing, and outside", "write(0, {-1|40}, 1) -> -11");
        b.unchanged(REFUSED, "refused", "write({-1|4}, 0, 1) -> -1", "write(3, 0, 1) -> -11", "write(0, {-1|4}, 1) -> -12");
    }

    private void item() {
        b.promise(43);
        String sentence = "Item i, taken for a sort (0 to 4; of longs the lowest 32 bits; of booleans 1, 0).";
        b.test(sentence, "the first and the last", "sheet(0, 1, 40)", "write(0, 0, 7)", "write(0, 39, 8)", "item(0, 1, 0) -> 7",
            "item(0, 1, 39) -> 8");
        b.test(sentence, "each sort taken for itself", "sheet(0, 0, 1)", "item(0, 0, 0) -> 0", "sheet(0, 1, 1)", "item(0, 1, 0) -> 0",
            "sheet(0, 2, 1)", "item(0, 2, 0) -> 0", "sheet(0, 3, 1)", "item(0, 3, 0) -> 0", "sheet(0, 4, 1)", "item(0, 4, 0) -> 0");
        b.test(sentence, "of longs below 0 and above", "sheet(0, 3, 2)", "write(0, 0, -1)", "write(0, 1, HIGH)", "item(0, 3, 0) -> -1",
            "item(0, 3, 1) -> 2147483647");
        b.test("(An item may be as low as these, too.)", "items -1, -11, -12, -13", "sheet(0, 0, 4)", "write(0, 0, -1)", "write(0, 1, -11)",
            "write(0, 2, -12)", "write(0, 3, -13)", "item(0, 0, 0) -> -1", "item(0, 0, 1) -> -11", "item(0, 0, 2) -> -12",
            "item(0, 0, 3) -> -13");
    }

    private void itemRefused() {
        String sentence = "BAD: no such SHEET, sort; -13; -11; -12.";
        b.test(sentence, "BAD: a SHEET too small, too large", "item({-1|LOW|4|HIGH}, 0, 0) -> -1");
        b.test(sentence, "BAD: a sort too small, too large", "sheet(0, 0, 1)", "item(0, {-1|LOW|5|HIGH}, 0) -> -1");
        b.test(sentence + " .. -13 a thing of another sort or kind", "each sort taken for the others", "sheet(0, 0, 1)",
            "item(0, {1|2|3|4}, 0) -> -13", "sheet(0, 1, 1)", "item(0, {0|2|3|4}, 0) -> -13", "sheet(0, 2, 1)",
            "item(0, {0|1|3|4}, 0) -> -13", "sheet(0, 3, 1)", "item(0, {0|1|2|4}, 0) -> -13", "sheet(0, 4, 1)",
            "item(0, {0|1|2|3}, 0) -> -13");
        b.test(sentence + " .. -11 nothing where something is asked", "missing: of no sort, so not of another",
            "item(0, {0|1|2|3|4}, 0) -> -11");
        b.test(sentence + " .. -12 a place outside", "i too small, too large", "sheet(0, 0, 3)", "item(0, 0, 2) -> 0",
            "item(0, 0, {-1|LOW|3|40|HIGH}) -> -12");
        b.test(sentence + " .. -12 a place outside", "an empty row", "sheet(0, 0, 0)", "item(0, 0, 0) -> -12");
        b.test("of several the first named .. " + sentence, "BAD and -11; -13 and -12; -11 and -12", "item(0, 5, 0) -> -1",
            "item(0, 0, -1) -> -11", "sheet(0, 0, 1)", "item(0, 1, {-1|1}) -> -13", "item(0, 5, 9) -> -1");
        b.unchanged(REFUSED, "refused, and answered", "item(0, 0, 1) -> -7", "item({-1|4}, 0, 0) -> -1", "item(0, {-1|5}, 0) -> -1",
            "item(0, 1, 0) -> -13", "item(3, 0, 0) -> -11", "item(0, 0, {-1|4}) -> -12");
    }

    private void adds() {
        b.promise(44);
        String sentence = "n (0 to 9) items of a SHEET taken for bytes, from item i on, become ADD of TOWERS (those that change() "
            + "refuses are left out), from TOWER 0 on: how many came.";
        b.test(sentence, "n 0, the fewest: none", "ValleyA", "sheet(0, 0, 3)", "adds(0, {0|2}, 0) -> 0", "towerOf(0, 1) -> 0",
            "towerOf(1, 1) -> 10");
        b.test(sentence, "n 9, the most, of nine TOWERS", "9 times: tower(1, 50, 0, 1)", "sheet(0, 0, 9)", "write(0, 8, 3)",
            "adds(0, 0, 9) -> 9", "towerOf({0|7}, 1) -> 0", "towerOf(8, 1) -> 3");
        b.test(sentence, "from the first item on, and from one on; always from TOWER 0 on", "2 times: tower(1, 50, 0, 1)", "sheet(0, 0, 3)",
            "write(0, 0, 1)", "write(0, 1, 2)", "write(0, 2, 3)", "adds(0, 0, 2) -> 2", "towerOf(0, 1) -> 1", "towerOf(1, 1) -> 2",
            "adds(0, 1, 2) -> 2", "towerOf(0, 1) -> 2", "towerOf(1, 1) -> 3", "adds(0, 2, 1) -> 1", "towerOf(0, 1) -> 3",
            "towerOf(1, 1) -> 3");
        b.test("(those that change() refuses are left out) .. ADD (0 to 99 minutes)",
            "items -1, 0, 99, 100, -128, 127: each is one TOWER's all the same", "6 times: tower(1, 50, 0, 1)", "sheet(0, 0, 6)",
            "write(0, 0, -1)", "write(0, 2, 99)", "write(0, 3, 100)", "write(0, 4, -128)", "write(0, 5, 127)", "adds(0, 0, 6) -> 2",
            "towerOf({0|3|4|5}, 1) -> 50", "towerOf(1, 1) -> 0", "towerOf(2, 1) -> 99");
        b.test("(those that change() refuses are left out)", "more items than TOWERS", "2 times: tower(1, 50, 0, 1)", "sheet(0, 0, 9)",
            "adds(0, 0, 9) -> 2", "towerOf({0|1}, 1) -> 0", "many(0) -> 2");
        b.test("(those that change() refuses are left out)", "empty: there is no TOWER", "sheet(0, 0, 9)", "adds(0, 0, 9) -> 0");
    }

    private void addsRefused() {
        String sentence = "BAD: no such SHEET, n; -13; -11; -12: what stood ahead came.";
        b.test(sentence, "BAD: a SHEET too small, too large", "ValleyA", "adds({-1|LOW|4|HIGH}, 0, 1) -> -1");
        b.test(sentence, "BAD: n too small, too large", "ValleyA", "sheet(0, 0, 40)", "adds(0, 0, {-1|LOW|10|HIGH}) -> -1",
            "towerOf(1, 1) -> 10");
        b.test(sentence + " .. -13 a thing of another sort or kind", "shorts, ints, longs, booleans; of n 0, too", "ValleyA",
            "sheet(0, 1, 9)", "adds(0, 0, {0|1|9}) -> -13", "sheet(0, 2, 9)", "adds(0, 0, {0|9}) -> -13", "sheet(0, 3, 9)",
            "adds(0, 0, {0|9}) -> -13", "sheet(0, 4, 9)", "adds(0, 0, {0|9}) -> -13", "towerOf(1, 1) -> 10");
        b.test(sentence + " .. -11 nothing where something is asked", "missing; of n 0, too", "ValleyA", "adds({0|3}, 0, {0|1|9}) -> -11",
            "towerOf(1, 1) -> 10");
        b.test(sentence, "-12: i too small: nothing stood ahead", "ValleyA", "sheet(0, 0, 9)", "adds(0, {-1|LOW}, {1|9}) -> -12",
            "towerOf(1, 1) -> 10");
        b.test(sentence, "-12: i too large: nothing stood ahead", "ValleyA", "sheet(0, 0, 9)", "adds(0, {9|HIGH}, {1|9}) -> -12",
            "towerOf(1, 1) -> 10");
        b.test(sentence, "-12: one item too few; what stood ahead came", "3 times: tower(1, 50, 0, 1)", "sheet(0, 0, 2)", "write(0, 1, 7)",
            "adds(0, 0, 3) -> -12", "towerOf(0, 1) -> 0", "towerOf(1, 1) -> 7", "towerOf(2, 1) -> 50", "adds(0, 1, 2) -> -12",
            "towerOf(0, 1) -> 7");
        b.test(sentence, "-12: an empty row", "ValleyA", "sheet(0, 0, 0)", "adds(0, 0, 1) -> -12", "adds(0, 0, 0) -> 0");
        b.test("of several the first named .. " + sentence, "BAD and -11, -13 and -12, -11 and -12", "ValleyA", "adds(0, 0, 10) -> -1",
            "adds(0, -1, 1) -> -11", "sheet(0, 1, 1)", "adds(0, {-1|1}, 1) -> -13", "adds(0, 0, {-1|10}) -> -1");
        b.unchanged(REFUSED, "refused", "adds({-1|4}, 0, 1) -> -1", "adds(0, 0, {-1|10}) -> -1", "adds(1, 0, 1) -> -13",
            "adds(3, 0, 1) -> -11", "adds(0, {-1|4}, 1) -> -12", "adds(0, 0, 0) -> 0");
    }

    private void shelf() {
        b.promise(45);
        String sentence = "A SHELF holds TOWER n (what 0), the row of SHEET n (1; nothing, if missing), nothing (2): 1.";
        b.test(sentence + " .. SHELVES 0 to 3", "the first and the last", PLAIN, "shelf(0, 0, 0) -> 1", "shelf(3, 0, 0) -> 1",
            "taken({0|3}, 0) -> 0", "taken({1|2}, 0) -> -11");
        b.test(sentence, "the first TOWER and the last of nine", "9 times: " + PLAIN, "shelf(0, 0, 0) -> 1", "shelf(1, 0, 8) -> 1",
            "taken(0, 1) -> 0", "taken(1, 1) -> 8");
        b.test(sentence, "the first SHEET and the last", "sheet(0, 0, 5)", "sheet(3, 4, 6)", "shelf(0, 1, 0) -> 1", "shelf(1, 1, 3) -> 1",
            "taken(0, 10) -> 5", "taken(1, 14) -> 6");
        b.test(sentence, "an empty row, and one of 40", "sheet(0, 0, 0)", "sheet(1, 0, 40)", "shelf(0, 1, 0) -> 1", "shelf(1, 1, 1) -> 1",
            "taken(0, 10) -> 0", "taken(1, 10) -> 40");
        b.test(sentence, "a missing SHEET: nothing, where something was held", PLAIN, "shelf(0, 0, 0)", "shelf(0, 1, 3) -> 1",
            "taken(0, {0|10}) -> -11");
        b.test(sentence, "nothing: whatever n", PLAIN, "shelf(0, 0, 0)", "shelf(0, 2, {0|-1|LOW|9|HIGH}) -> 1", "taken(0, 0) -> -11");
        b.test("SHELVES 0 to 3 hold .. a SHEET's row", "the row that it was, when the SHEET becomes another, or missing", "sheet(0, 0, 5)",
            "shelf(0, 1, 0)", "sheet(0, 2, 7)", "taken(0, 10) -> 5", "sheet(0, -1, 0)", "taken(0, 10) -> 5");
    }

    private void shelfOfTower() {
        String sentence = "SHELVES 0 to 3 hold a TOWER (by its number; nothing, if there is no such one at the time)";
        b.test(sentence, "there is no such one any more; then another one with the number", PLAIN, "keep()", "tower(2, 0, 0, 1)",
            "shelf(0, 0, 1)", "taken(0, 2) -> 1", "again()", "taken(0, 2) -> -11", "act(0, 0, 5) -> 0", "tower(4, 0, 0, 1) -> 1",
            "taken(0, 4) -> 1", "taken(0, 2) -> -13", "act(0, 0, 5) -> 6");
        b.test(sentence, "its KIND and DELAY at the time", PLAIN, "shelf(0, 0, 0)", "act(0, 3, 5) -> 30", "change(0, 2, 9)",
            "act(0, 3, 5) -> 23", "turn(0, 4)", "act(0, 3, 5) -> 3", "taken(0, 4) -> 0");
    }

    private void shelfRefused() {
        String sentence = "BAD: no such SHELF, what, thing.";
        b.test(sentence, "a SHELF too small, too large", PLAIN, "shelf({-1|LOW|4|HIGH}, {0|1|2}, 0) -> -1");
        b.test(sentence, "what too small, too large", PLAIN, "shelf(0, {-1|LOW|3|HIGH}, 0) -> -1");
        b.test(sentence, "no such TOWER: empty, too small, too large", "shelf(0, 0, 0) -> -1", "ValleyA",
            "shelf(0, 0, {-1|LOW|6|9|HIGH}) -> -1", "taken(0, 0) -> -11");
        b.test(sentence, "no such SHEET: too small, too large", PLAIN, "shelf(0, 0, 0)", "shelf(0, 1, {-1|LOW|4|HIGH}) -> -1",
            "taken(0, 0) -> 0");
        b.unchanged(REFUSED, "refused", "shelf({-1|4}, 2, 0) -> -1", "shelf(0, {-1|3}, 0) -> -1", "shelf(0, 0, {-1|9}) -> -1",
            "shelf(0, 1, {-1|4}) -> -1");
    }

    private void taken() {
        b.promise(46);
        String sentence = "What a SHELF holds taken for a thing of KIND as (0 to 5, or one under it): its number; .. KINDS: 0 watchman; "
            + "1 plain, 2 proud, 4 mender (under watchman); 3 drunk (under proud); 5 sleeper (under mender).";
        String[] kinds = {"{0|1}", "{0|2}", "{0|2|3}", "{0|4}", "{0|4|5}"};
        String[] others = {"{2|3|4|5}", "{1|3|4|5}", "{1|4|5}", "{1|2|3|5}", "{1|2|3}"};
        for (int kind = 1; kind <= 5; kind++) {
            b.test(sentence + " .. -13 a thing of another sort or kind", "KIND " + kind + ", those above it, and the others",
                "tower(" + kind + ", 0, 0, 1)", "tower(" + kind + ", 0, 0, 1)", "shelf(0, 0, 1)", "taken(0, " + kinds[kind - 1] + ") -> 1",
                "taken(0, " + others[kind - 1] + ") -> -13", "taken(0, {10|11|12|13|14}) -> -13");
        }
        b.test("for a row of sort as - 10 (as 10 to 14): how many items.", "sort 0 and 4, empty and 40", "sheet(0, 0, 0)", "shelf(0, 1, 0)",
            "taken(0, 10) -> 0", "sheet(0, 4, 40)", "shelf(0, 1, 0)", "taken(0, 14) -> 40");
        b.test("for a row of sort as - 10 (as 10 to 14): how many items. .. -13 a thing of another sort or kind",
            "each of another sort, and a row for a TOWER", "sheet(0, 2, 7)", "shelf(0, 1, 0)", "taken(0, 12) -> 7",
            "taken(0, {10|11|13|14}) -> -13", "taken(0, {0|1|2|3|4|5}) -> -13");
    }

    private void takenRefused() {
        String sentence = "BAD: no such SHELF, as; -13; -11.";
        b.test(sentence, "BAD: a SHELF too small, too large", "taken({-1|LOW|4|HIGH}, 0) -> -1");
        b.test(sentence, "BAD: as too small, too large, and between 5 and 10", PLAIN, "shelf(0, 0, 0)",
            "taken(0, {-1|LOW|6|9|15|HIGH}) -> -1", "taken(3, {-1|6|9|15}) -> -1");
        b.test(sentence + " .. -11 nothing where something is asked", "nothing, for each KIND and sort",
            "taken(0, {0|1|2|3|4|5|10|11|12|13|14}) -> -11");
        b.unchanged(REFUSED, "refused, and answered", "taken(0, 3) -> 4", "taken(0, 1) -> -13", "taken(3, 0) -> -11",
            "taken({-1|4}, 0) -> -1", "taken(0, {-1|6|9|15}) -> -1");
    }

    private void trace() {
        b.promise(48);
        String sentence = "THE TRACE's i-th body. NONE. .. THE TRACE: numbers of the bodies that ran in the latest act(), as they began "
            + "(left first); the first 30 are kept.";
        b.test(sentence, "empty: no act() yet", "trace({0|-1|29}) -> -3");
        b.test(sentence, "one body: i 0, and i too large", "tower(2, 0, 0, 1)", "shelf(0, 0, 0)", "act(0, 0, 5) -> 5", "trace(0) -> 10",
            "trace({1|29|30|HIGH}) -> -3");
        b.test(sentence, "seven bodies, the most: the first, the last, and i too large", PLAIN, "tower(3, 0, 0, 1)", "shelf(0, 0, 1)",
            "act(0, 3, 5) -> 13", "trace(0) -> 51", "trace(1) -> 13", "trace(2) -> 30", "trace(3) -> 11", "trace(4) -> 50",
            "trace(5) -> 10", "trace(6) -> 12", "trace({7|29|30}) -> -3");
        b.test(sentence, "i too small", PLAIN, "shelf(0, 0, 0)", "act(0, 0, 5)", "trace({-1|LOW}) -> -3");
        b.test(sentence, "of the latest alone, though it is shorter", PLAIN, "shelf(0, 0, 0)", "act(0, 3, 5)", "trace(3) -> 10",
            "act(0, 0, 5)", "trace(0) -> 20", "trace(1) -> 10", "trace(2) -> -3");
        b.test(sentence, "an act() that is refused has none", PLAIN, "shelf(0, 0, 0)", "act(0, 3, 5)", "act(1, 3, 5) -> 0",
            "trace(0) -> -3");
        b.unchanged(REFUSED, "refused, and answered", "trace(0) -> 51", "trace({-1|7}) -> -3");
    }

    private void many() {
        b.promise(49);
        String sentence = "How many: what = 0 TOWERS, 1 RULES, 2 REPORTS, 3 ROWS, 4 TOWERS that hold something, 5 bytes of THE TAPE, 6 "
            + "bodies of THE TRACE (those kept, 30 at most).";
        b.test(sentence, "empty: none of all", "many({0|1|2|3|4|5|6}) -> 0");
        b.test(sentence, "full: nine TOWERS, eight RULES, six REPORTS, nine ROWS, nine that hold, 200 bytes", "9 times: " + PLAIN,
            "rules: " + "plain add 1;".repeat(8), "6 times: report(0, 0)", "prove(0, 0, true)", "cry(0, 0, true)", "25 times: feed(0, 8)",
            "many({0|3|4}) -> 9", "many(1) -> 8", "many(2) -> 6", "many(5) -> 200");
        b.test(sentence, "bodies: as many as an act() can have", PLAIN, "tower(3, 0, 0, 1)", "shelf(0, 0, 1)", "act(0, 3, 5)",
            "many(6) -> 7", "act(0, -1, 5) -> 0", "many(6) -> 0");
        b.test(sentence + " BAD: another what.", "too small", "many({-1|LOW}) -> -1");
        b.test(sentence + " BAD: another what.", "too large", "many({7|HIGH}) -> -1");
        b.unchanged(REFUSED, "refused, and answered", "many({0|1|2|3|4|5|6})", "many({-1|7}) -> -1");
    }
}
