/** Promises 37 to 40. */
public final class RowsTest {
    private static final Due d = new Due("RowsTest");
    private static final int LOW = Integer.MIN_VALUE, HIGH = Integer.MAX_VALUE;

    public static void main(String[] args) {
        prove();
        row();
        alterRow();
        judge();
        judgeFirst();
        judgeSleeper();
        judgeSilent();
        judgeToday();
        d.end();
    }

    private static void rows(ShoutedHour x, int... due) {
        for (int i = 0; i < due.length; i++) {
            d.due("row " + i / 3 + ", " + i % 3, x.row(i / 3, i % 3), due[i]);
        }
        d.due("rows", x.many(3), due.length / 3);
    }

    private static void prove() {
        ShoutedHour x = ValleyA.made();
        d.due("west", x.prove(0, 400, true), 6);
        rows(x, 0, 400, 400, 1, 420, 410, 2, 434, 422, 3, 443, 429, 4, 487, 445, 5, 503, 470);
        d.due("east", x.prove(3, 100, false), 4);
        rows(x, 3, 100, 100, 2, 108, 112, 1, 121, 122, 0, 143, 122);
        d.due("alone", x.prove(0, 1439, false), 1);
        rows(x, 0, 1439, 1439);
        d.due("not heard", x.prove(0, 100, true), 3);
        for (int k : new int[] {6, 9, -1, LOW, HIGH}) {
            d.due("prove from " + k, x.prove(k, 0, true), -1);
        }
        for (int t : new int[] {-1, 1440, LOW, HIGH}) {
            d.due("prove at " + t, x.prove(0, t, true), -1);
        }
        rows(x, 0, 100, 100, 1, 120, 110, 2, 134, 122);
        d.due("nothing is held by it", x.many(4), 0);
    }

    private static void row() {
        ShoutedHour x = ValleyA.made();
        d.due("no rows", x.row(0, 0), -9);
        x.prove(0, 100, true);
        for (int i : new int[] {3, 6, 9, -1, LOW, HIGH}) {
            d.due("row " + i, x.row(i, 0), -9);
            d.due("alterRow " + i, x.alterRow(i, 0, 5), -9);
        }
        for (int what : new int[] {3, -1, LOW, HIGH}) {
            d.due("row 0, " + what, x.row(0, what), -9);
            d.due("alterRow 0, " + what, x.alterRow(0, what, 5), -9);
        }
        rows(x, 0, 100, 100, 1, 120, 110, 2, 134, 122);
    }

    private static void alterRow() {
        ShoutedHour x = ValleyA.made();
        x.prove(0, 100, true);
        d.due("alter", x.alterRow(1, 0, HIGH), 1);
        d.due("alter", x.alterRow(1, 1, -1), 120);
        d.due("alter", x.alterRow(1, 2, LOW), 110);
        rows(x, 0, 100, 100, HIGH, -1, LOW, 2, 134, 122);
        d.due("alter", x.alterRow(1, 2, 7), LOW);
    }

    private static void judge() {
        ShoutedHour x = ValleyA.made();
        d.due("no rows", x.judge(true), 0);
        x.prove(0, 400, true);
        d.due("right", x.judge(true), 0);
        d.due("the other way", x.judge(false), 2);
        x.prove(5, 400, false);
        d.due("right", x.judge(false), 0);
        d.due("the other way", x.judge(true), 2);
        for (int i = 1; i < 6; i++) {
            for (int what = 0; what < 3; what++) {
                x.prove(0, 400, true);
                int was = x.row(i, what);
                x.alterRow(i, what, was + 1);
                d.due("row " + i + ", " + what + " more", x.judge(true), i + 1);
                x.alterRow(i, what, was - 1);
                d.due("row " + i + ", " + what + " less", x.judge(true), i + 1);
                x.alterRow(i, what, LOW);
                d.due("row " + i + ", " + what + " least", x.judge(true), i + 1);
            }
        }
        x.alterRow(5, 2, 470);
        d.due("right again", x.judge(true), 0);
        x.alterRow(4, 1, 1);
        x.alterRow(2, 1, 1);
        d.due("the first that isn't", x.judge(true), 3);
    }

    private static void judgeFirst() {
        ShoutedHour x = ValleyA.made();
        x.prove(5, 400, true);
        d.due("alone, right", x.judge(true), 0);
        d.due("alone, right the other way, too", x.judge(false), 0);
        int[][] wrong = {{6, 400, 400}, {-1, 400, 400}, {9, 400, 400}, {5, 401, 400}, {5, 400, 399}, {5, -1, -1},
            {5, 1440, 1440}, {HIGH, 0, 0}, {LOW, 0, 0}, {5, LOW, LOW}};
        for (int[] w : wrong) {
            first(x, w);
            d.due("first " + java.util.Arrays.toString(w), x.judge(true), 1);
        }
        int[][] right = {{0, 0, 0}, {5, 1439, 1439}, {3, 1, 1}};
        for (int[] r : right) {
            first(x, r);
            d.due("first " + java.util.Arrays.toString(r), x.judge(true), 0);
        }
        x.prove(0, 400, true);
        first(x, 1, 420, 420);
        d.due("the next isn't", x.judge(true), 2);
    }

    private static void first(ShoutedHour x, int... row) {
        for (int what = 0; what < 3; what++) {
            x.alterRow(0, what, row[what]);
        }
    }

    private static void judgeSleeper() {
        ShoutedHour x = ValleyA.made();
        x.prove(0, 317, true);
        d.due("at 360", x.judge(true), 0);
        int[] atTower3 = {316, 336, 350, 359, 403, 419};
        for (int i = 0; i < 6; i++) {
            x.alterRow(i, 1, atTower3[i]);
            x.alterRow(i, 2, x.row(i, 2) - 1);
        }
        d.due("at 359", x.judge(true), 4);
    }

    private static void judgeSilent() {
        ShoutedHour x = ValleyA.made();
        x.prove(0, 400, true);
        Due.rulesOf(x, "proud if number = 2 silent;");
        d.due("he doesn't cry on", x.judge(true), 4);
        d.due("he ends it", x.prove(0, 400, true), 3);
        d.due("right", x.judge(true), 0);
        d.due("he begins", x.prove(2, 400, true), 4);
        d.due("right", x.judge(true), 0);
    }

    private static void judgeToday() {
        ShoutedHour x = ValleyA.made();
        x.prove(0, 400, true);
        x.wind(1, 1);
        x.day(1);
        d.due("another day", x.judge(true), 2);
        x.day(0);
        d.due("right", x.judge(true), 0);
        x.change(2, 2, 0);
        d.due("another delay", x.judge(true), 4);
        x.change(2, 2, 1);
        x.turn(5, 1);
        d.due("another kind", x.judge(true), 6);
        ShoutedHour y = new ShoutedHour();
        y.tower(1, 0, 0, 1);
        y.keep();
        y.tower(1, 0, 0, 1);
        y.prove(0, 0, true);
        y.again();
        d.due("no such tower any more", y.judge(true), 2);
        y.prove(0, 0, true);
        y.tower(1, 0, 0, 1);
        d.due("rows that stop early are right", y.judge(true), 0);
    }
}
