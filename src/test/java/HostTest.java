/** Promises 41 to 49. */
public final class HostTest {
    private static final Due d = new Due("HostTest");
    private static final int LOW = Integer.MIN_VALUE, HIGH = Integer.MAX_VALUE;
    private static final int[] NO_PLACE = {-1, 4, LOW, HIGH};

    public static void main(String[] args) {
        sheet();
        write();
        item();
        adds();
        shelf();
        taken();
        acts();
        parted();
        wraps();
        trace();
        many();
        d.end();
    }

    private static void sheet() {
        ShoutedHour x = new ShoutedHour();
        for (int sort = 0; sort < 5; sort++) {
            d.due("sheet", x.sheet(3, sort, 40), 1);
            d.due("all 0", x.item(3, sort, 39), 0);
            d.due("no more", x.item(3, sort, 40), -12);
            x.write(3, 39, 1);
            d.due("sheet", x.sheet(3, sort, 40), 1);
            d.due("all 0 again", x.item(3, sort, 39), 0);
            d.due("of none", x.sheet(3, sort, 0), 1);
            d.due("none", x.item(3, sort, 0), -12);
            d.due("too many", x.sheet(3, sort, 41), -1);
            d.due("too many", x.sheet(3, sort, HIGH), -1);
            d.due("below 0", x.sheet(3, sort, -1), -14);
            d.due("below 0", x.sheet(3, sort, LOW), -14);
            d.due("still of none", x.item(3, sort, 0), -12);
        }
        for (int sheet : NO_PLACE) {
            d.due("sheet " + sheet, x.sheet(sheet, 0, 1), -1);
            d.due("sheet " + sheet, x.sheet(sheet, 0, -1), -1);
            d.due("sheet " + sheet, x.sheet(sheet, -1, 0), -1);
        }
        for (int sort : new int[] {-2, 5, LOW, HIGH}) {
            d.due("sort " + sort, x.sheet(0, sort, 1), -1);
            d.due("sort " + sort, x.sheet(0, sort, -1), -1);
        }
        d.due("another is missing", x.item(0, 0, 0), -11);
        d.due("missing", x.sheet(3, -1, 41), 1);
        d.due("missing", x.sheet(3, -1, -1), 1);
        d.due("it is missing", x.item(3, 4, 0), -11);
    }

    private static void write() {
        ShoutedHour x = new ShoutedHour();
        int[][] wide = {{128, -128, 128, 128, 128, 1}, {-129, 127, -129, -129, -129, 1}, {32768, 0, -32768, 32768, 32768, 1},
            {65536, 0, 0, 65536, 65536, 1}, {-1, -1, -1, -1, -1, 1}, {0, 0, 0, 0, 0, 0}, {LOW, 0, 0, LOW, LOW, 1},
            {HIGH, -1, -1, HIGH, HIGH, 1}, {256, 0, 256, 256, 256, 1}};
        for (int[] w : wide) {
            for (int sort = 0; sort < 5; sort++) {
                x.sheet(1, sort, 3);
                x.write(1, 2, 1);
                d.due("write", x.write(1, 2, w[0]), 1);
                d.due("narrowed to sort " + sort, x.item(1, sort, 2), w[sort + 1]);
                d.due("the one ahead", x.item(1, sort, 1), 0);
            }
        }
        for (int i : new int[] {-1, 3, LOW, HIGH}) {
            d.due("write " + i, x.write(1, i, 1), -12);
        }
        for (int sheet : NO_PLACE) {
            d.due("write " + sheet, x.write(sheet, 0, 1), -1);
        }
        d.due("missing", x.write(2, 0, 1), -11);
        d.due("missing, outside", x.write(2, 99, 1), -11);
    }

    private static void item() {
        ShoutedHour x = new ShoutedHour();
        x.sheet(0, 2, 2);
        x.write(0, 0, -12);
        d.due("as low as a refusal", x.item(0, 2, 0), -12);
        for (int sort : new int[] {0, 1, 3, 4}) {
            d.due("another sort", x.item(0, sort, 0), -13);
            d.due("another sort, outside", x.item(0, sort, 7), -13);
            d.due("missing", x.item(1, sort, 7), -11);
        }
        for (int sort : new int[] {-1, 5, LOW, HIGH}) {
            d.due("no sort", x.item(0, sort, 0), -1);
            d.due("no sort, missing", x.item(1, sort, 0), -1);
        }
        for (int sheet : NO_PLACE) {
            d.due("item of " + sheet, x.item(sheet, 2, 0), -1);
        }
        for (int i : new int[] {-1, 2, LOW, HIGH}) {
            d.due("item " + i, x.item(0, 2, i), -12);
        }
    }

    private static ShoutedHour withBytes(int... bytes) {
        ShoutedHour x = ValleyA.made();
        x.sheet(0, 0, bytes.length);
        for (int i = 0; i < bytes.length; i++) {
            x.write(0, i, bytes[i]);
        }
        return x;
    }

    private static void addsAre(ShoutedHour x, int... due) {
        for (int k = 0; k < due.length; k++) {
            d.due("add of " + k, x.towerOf(k, 1), due[k]);
        }
    }

    private static void adds() {
        ShoutedHour x = withBytes(70, -1, 99, 100, 0, 127, 5, 6, 7);
        d.due("those refused are left out", x.adds(0, 0, 6), 3);
        addsAre(x, 70, 10, 99, 3, 0, 20);
        d.due("beyond the towers", x.adds(0, 0, 9), 3);
        d.due("from an item on", x.adds(0, 6, 3), 3);
        addsAre(x, 5, 6, 7, 3, 0, 20);
        d.due("what stood ahead came", x.adds(0, 7, 3), -12);
        addsAre(x, 6, 7, 7, 3, 0, 20);
        d.due("outside", x.adds(0, 9, 1), -12);
        d.due("ahead", x.adds(0, -1, 2), -12);
        d.due("outside", x.adds(0, HIGH, 9), -12);
        d.due("outside", x.adds(0, LOW, 9), -12);
        d.due("none", x.adds(0, 0, 0), 0);
        d.due("none, from nowhere", x.adds(0, HIGH, 0), 0);
        for (int n : new int[] {-1, 10, LOW, HIGH}) {
            d.due("adds " + n, x.adds(0, 0, n), -1);
        }
        for (int sheet : NO_PLACE) {
            d.due("adds of " + sheet, x.adds(sheet, 0, 1), -1);
        }
        d.due("missing", x.adds(1, 0, 1), -11);
        d.due("missing, outside", x.adds(1, -1, 1), -11);
        d.due("missing, none", x.adds(1, 0, 0), -11);
        d.due("missing, none, from nowhere", x.adds(1, HIGH, 0), -11);
        x.sheet(1, 0, 0);
        d.due("empty, none", x.adds(1, 0, 0), 0);
        d.due("empty", x.adds(1, 0, 1), -12);
        x.sheet(1, -1, 0);
        d.due("missing again, none", x.adds(1, 0, 0), -11);
        d.due("missing, too many", x.adds(1, 0, 10), -1);
        d.due("of a new object", new ShoutedHour().adds(0, 0, 0), -11);
        for (int sort = 1; sort < 5; sort++) {
            x.sheet(1, sort, 3);
            d.due("another sort", x.adds(1, 0, 1), -13);
            d.due("another sort, outside", x.adds(1, 7, 1), -13);
            d.due("another sort, none", x.adds(1, 0, 0), -13);
        }
        addsAre(x, 6, 7, 7, 3, 0, 20);
    }

    private static void shelf() {
        ShoutedHour x = ValleyA.made();
        d.due("tower", x.shelf(0, 0, 5), 1);
        d.due("row missing", x.shelf(0, 1, 3), 1);
        d.due("then nothing", x.taken(0, 0), -11);
        x.sheet(3, 1, 7);
        d.due("still nothing", x.taken(0, 11), -11);
        d.due("row", x.shelf(0, 1, 3), 1);
        x.sheet(3, 2, 9);
        d.due("the row itself is held", x.taken(0, 11), 7);
        x.sheet(3, -1, 0);
        d.due("the row itself is held", x.taken(0, 11), 7);
        for (int n : new int[] {6, -1, LOW, HIGH}) {
            d.due("tower " + n, x.shelf(0, 0, n), -1);
        }
        for (int n : NO_PLACE) {
            d.due("row " + n, x.shelf(0, 1, n), -1);
            d.due("shelf " + n, x.shelf(n, 0, 0), -1);
            d.due("shelf " + n, x.shelf(n, 2, 0), -1);
        }
        for (int what : new int[] {-1, 3, LOW, HIGH}) {
            d.due("what " + what, x.shelf(0, what, 0), -1);
        }
        d.due("held on", x.taken(0, 11), 7);
        d.due("nothing", x.shelf(0, 2, 77), 1);
        d.due("nothing", x.taken(0, 11), -11);
        x.keep();
        x.tower(1, 1, 1, 1);
        x.shelf(2, 0, 6);
        d.due("the seventh", x.taken(2, 1), 6);
        x.again();
        d.due("no such one at the time", x.taken(2, 1), -11);
        x.tower(2, 1, 1, 1);
        d.due("another one by its number", x.taken(2, 2), 6);
    }

    private static void taken() {
        ShoutedHour x = new ShoutedHour();
        for (int kind = 1; kind <= 5; kind++) {
            x.tower(kind, 0, 0, 1);
        }
        boolean[][] is = {{true, true, false, false, false, false}, {true, false, true, false, false, false},
            {true, false, true, true, false, false}, {true, false, false, false, true, false},
            {true, false, false, false, true, true}};
        for (int k = 0; k < 5; k++) {
            x.shelf(1, 0, k);
            for (int as = 0; as <= 5; as++) {
                d.due("kind " + (k + 1) + " as " + as, x.taken(1, as), is[k][as] ? k : -13);
            }
            for (int as = 10; as <= 14; as++) {
                d.due("tower as a row", x.taken(1, as), -13);
            }
        }
        x.turn(4, 1);
        d.due("its kind at the time", x.taken(1, 5), -13);
        for (int sort = 0; sort < 5; sort++) {
            x.sheet(0, sort, 8 * sort);
            x.shelf(2, 1, 0);
            for (int as = 10; as <= 14; as++) {
                d.due("row as " + as, x.taken(2, as), as - 10 == sort ? 8 * sort : -13);
            }
            for (int as = 0; as <= 5; as++) {
                d.due("row as a tower", x.taken(2, as), -13);
            }
        }
        for (int as : new int[] {-1, 6, 9, 15, LOW, HIGH}) {
            d.due("as " + as, x.taken(1, as), -1);
            d.due("nothing as " + as, x.taken(3, as), -1);
        }
        for (int shelf : NO_PLACE) {
            d.due("taken of " + shelf, x.taken(shelf, 0), -1);
        }
        for (int as : new int[] {0, 5, 10, 14}) {
            d.due("nothing", x.taken(3, as), -11);
        }
    }

    /** Of TOWER 6 (n 6, a 2) of a KIND, with x 10: what an act answers, and its trace. */
    private static void act(int kind, int act, int answer, int... trace) {
        ShoutedHour x = new ShoutedHour();
        for (int k = 0; k < 7; k++) {
            x.tower(kind, 50, 2, 3);
        }
        x.shelf(3, 0, 6);
        String what = "kind " + kind + " act " + act;
        d.due(what, x.act(3, act, 10), answer);
        d.due(what + " bodies", x.many(6), trace.length);
        for (int i = 0; i < trace.length; i++) {
            d.due(what + " trace " + i, x.trace(i), trace[i]);
        }
        d.due(what + " no more", x.trace(trace.length), -3);
    }

    private static void acts() {
        act(1, 0, 48, 20, 10);
        act(1, 1, 96, 11, 20, 10);
        act(1, 2, -2, 12);
        act(1, 3, 98, 13, 11, 20, 10);
        act(2, 0, 16, 10);
        act(2, 1, 30, 30, 11, 10);
        act(2, 2, -2, 12);
        act(2, 3, 28, 13, 30, 11, 10);
        act(3, 0, 22, 50, 10);
        act(3, 1, 42, 30, 11, 50, 10);
        act(3, 2, -2, 12);
        act(3, 3, 40 - 1, 51, 13, 30, 11, 50, 10, 12);
        act(4, 0, 16, 10);
        act(4, 1, 32, 11, 10);
        act(4, 2, -2, 40, 12);
        act(4, 3, 34, 13, 11, 10);
        act(5, 0, 16, 10);
        act(5, 1, -32, 60, 11, 10);
        act(5, 2, -2 + 8, 61, 40, 12, 10);
        act(5, 3, -32 ^ 2, 13, 60, 11, 10);
        ShoutedHour x = ValleyA.made();
        x.sheet(0, 0, 1);
        x.shelf(0, 0, 1);
        x.shelf(1, 1, 0);
        for (int[] none : new int[][] {{-1, 0}, {4, 0}, {LOW, 0}, {HIGH, 0}, {0, -1}, {0, 4}, {0, LOW}, {0, HIGH}, {1, 0}, {2, 0}}) {
            d.due("an act", x.act(0, 0, 5), 18);
            d.due("its trace", x.many(6), 2);
            d.due("act" + java.util.Arrays.toString(none), x.act(none[0], none[1], 5), 0);
            d.due("no trace", x.many(6), 0);
            d.due("no trace", x.trace(0), -3);
        }
        x.keep();
        x.tower(1, 1, 1, 1);
        x.shelf(2, 0, 6);
        x.again();
        d.due("no such tower at the time", x.act(2, 0, 5), 0);
    }

    private static void parted() {
        int[][] bodies = {{12}, {12}, {12}, {40, 12}, {61, 40, 12}};
        for (int kind = 1; kind <= 5; kind++) {
            ShoutedHour x = new ShoutedHour();
            x.tower(1, 0, 0, 1);
            x.tower(kind, 0, 1, 1);
            x.shelf(0, 0, 1);
            d.due("parted by 0", x.act(0, 2, 7), -15);
            int[] due = bodies[kind - 1];
            d.due("bodies", x.many(6), due.length);
            for (int i = 0; i < due.length; i++) {
                d.due("body " + i, x.trace(i), due[i]);
            }
            x.change(1, 2, 2);
            d.due("not parted any more", x.act(0, 2, 6), kind < 4 ? 6 : kind == 4 ? 7 : 10);
        }
        ShoutedHour x = new ShoutedHour();
        x.tower(3, 0, 0, 1);
        x.shelf(0, 0, 0);
        d.due("a drunk tells", x.act(0, 3, 7), -15);
        d.due("bodies", x.many(6), 7);
        d.due("the last", x.trace(6), 12);
        d.due("he hears", x.act(0, 1, 7), 14);
    }

    private static void wraps() {
        ShoutedHour x = new ShoutedHour();
        for (int k = 0; k < 3; k++) {
            x.tower(1, 0, 1, 1);
        }
        x.turn(2, 4);
        x.shelf(0, 0, 2);
        d.due("cries", x.act(0, 0, HIGH), HIGH + 2);
        d.due("the least by -1", x.act(0, 2, HIGH), LOW);
        d.due("x + 1 wraps", x.act(0, 2, LOW), HIGH);
        x.turn(2, 1);
        d.due("times 3", x.act(0, 0, HIGH), (HIGH + 2) * 3);
        d.due("the least by -1", x.act(0, 2, LOW), LOW);
        x.change(2, 2, 9);
        d.due("cut towards 0", x.act(0, 2, -13), -1);
        d.due("cut towards 0", x.act(0, 2, 13), 1);
    }

    private static void trace() {
        ShoutedHour x = ValleyA.made();
        d.due("none", x.trace(0), -3);
        x.shelf(0, 0, 4);
        x.act(0, 3, 1);
        d.due("first", x.trace(0), 51);
        d.due("last", x.trace(6), 12);
        for (int i : new int[] {7, 29, 30, 31, -1, LOW, HIGH}) {
            d.due("trace " + i, x.trace(i), -3);
        }
        x.act(0, 0, 1);
        d.due("of the latest", x.trace(0), 50);
        d.due("of the latest", x.trace(2), -3);
    }

    private static void many() {
        ShoutedHour x = ValleyA.made();
        Due.rulesOf(x, "plain add 1; plain add 2;");
        x.report(0, 0);
        x.report(0, 0);
        x.report(0, 0);
        x.prove(0, 100, false);
        x.cry(4, 400, true);
        x.feed(0, 7);
        x.shelf(0, 0, 2);
        x.act(0, 3, 0);
        int[] due = {6, 2, 3, 1, 2, 7, 4};
        for (int what = 0; what < 7; what++) {
            d.due("many " + what, x.many(what), due[what]);
        }
        for (int what : new int[] {-1, 7, LOW, HIGH}) {
            d.due("many " + what, x.many(what), -1);
        }
    }
}
