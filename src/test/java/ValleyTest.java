/** Promises 1 to 8, and the constants. */
public final class ValleyTest {
    private static final Due d = new Due("ValleyTest");
    private static final int LOW = Integer.MIN_VALUE, HIGH = Integer.MAX_VALUE;

    public static void main(String[] args) {
        constants();
        newObject();
        tower();
        towerOf();
        change();
        turn();
        day();
        wind();
        pace();
        d.end();
    }

    private static void constants() {
        d.due("BAD", ShoutedHour.BAD, -1);
        d.due("FULL", ShoutedHour.FULL, -2);
        d.due("NONE", ShoutedHour.NONE, -3);
        d.due("STATE", ShoutedHour.STATE, -4);
    }

    private static void newObject() {
        ShoutedHour x = new ShoutedHour();
        for (int what = 0; what <= 6; what++) {
            d.due("many(" + what + ") of a new object", x.many(what), 0);
        }
        d.due("again", x.again(), -3);
        d.due("day", x.day(0), 0);
        for (int day = 0; day < 7; day++) {
            d.due("wind of a new object", x.wind(day, 1), 100);
        }
        d.due("seed", x.seed(1), 1);
        for (int i = 0; i < 4; i++) {
            d.due("sheet", x.item(i, 0, 0), -11);
            d.due("shelf", x.taken(i, 0), -11);
        }
        ShoutedHour y = new ShoutedHour();
        y.tower(1, 0, 0, 1);
        d.due("another object", x.many(0), 0);
    }

    private static void tower() {
        ShoutedHour x = new ShoutedHour();
        int[][] wrong = {{0, 0, 0, 1}, {6, 0, 0, 1}, {-1, 0, 0, 1}, {LOW, 0, 0, 1}, {HIGH, 0, 0, 1}, {1, -1, 0, 1},
            {1, 100, 0, 1}, {1, 0, -1, 1}, {1, 0, 10, 1}, {1, 0, 0, 0}, {1, 0, 0, 21}, {1, 0, 0, -5}, {1, LOW, 0, 1}};
        for (int[] w : wrong) {
            d.due("tower" + java.util.Arrays.toString(w), x.tower(w[0], w[1], w[2], w[3]), -1);
        }
        d.due("none came", x.many(0), 0);
        d.due("all least", x.tower(1, 0, 0, 1), 0);
        d.due("all most", x.tower(5, 99, 9, 20), 1);
        for (int k = 2; k < 9; k++) {
            d.due("tower " + k, x.tower(k % 5 + 1, 1, 1, 1), k);
        }
        d.due("the tenth", x.tower(1, 0, 0, 1), -2);
        d.due("the tenth, wrong", x.tower(0, 0, 0, 1), -1);
        d.due("nine", x.many(0), 9);
    }

    private static void towerOf() {
        ShoutedHour x = ValleyA.made();
        int[][] of = {{1, 0, 0, 1, 0}, {1, 10, 2, 5, 10}, {2, 6, 1, 3, 12}, {5, 3, 4, 2, 7}, {3, 8, 0, 10, 16}, {4, 20, 5, 4, 25}};
        for (int k = 0; k < 6; k++) {
            for (int what = 0; what < 5; what++) {
                d.due("towerOf(" + k + ", " + what + ")", x.towerOf(k, what), of[k][what]);
            }
            d.due("silent", x.towerOf(k, 5), 0);
            d.due("held", x.towerOf(k, 6), -9);
            d.due("came", x.towerOf(k, 7), -9);
        }
        x.day(5);
        d.due("drunk on day 5", x.towerOf(4, 4), 16);
        x.day(6);
        d.due("drunk on day 6", x.towerOf(4, 4), 26);
        d.due("proud on day 6", x.towerOf(2, 4), 12);
        x.cry(0, 400, true);
        x.day(0);
        x.cry(0, 400, true);
        d.due("held", x.towerOf(4, 6), 445);
        d.due("came", x.towerOf(4, 7), 487);
        Due.rulesOf(x, "sleeper silent; watchman mile 3;");
        d.due("silent today", x.towerOf(3, 5), 1);
        d.due("a silent one adds as without rules", x.towerOf(3, 4), 7);
        d.due("not silent", x.towerOf(5, 5), 0);
        d.due("by mile", x.towerOf(5, 4), 17);
        d.due("by mile, the first", x.towerOf(0, 4), 3);
        for (int k : new int[] {-1, 6, 9, LOW, HIGH}) {
            d.due("towerOf(" + k + ", 0)", x.towerOf(k, 0), -1);
        }
        for (int what : new int[] {-1, 8, LOW, HIGH}) {
            d.due("towerOf(0, " + what + ")", x.towerOf(0, what), -1);
        }
    }

    private static void change() {
        ShoutedHour x = ValleyA.made();
        d.due("add", x.change(1, 1, 99), 10);
        d.due("add", x.change(1, 1, 0), 99);
        d.due("delay", x.change(1, 2, 9), 2);
        d.due("delay", x.change(1, 2, 0), 9);
        d.due("miles", x.change(1, 3, 20), 5);
        d.due("miles", x.change(1, 3, 1), 20);
        int[][] wrong = {{1, 1, -1}, {1, 1, 100}, {1, 2, -1}, {1, 2, 10}, {1, 3, 0}, {1, 3, 21}, {1, 0, 1}, {1, 4, 1},
            {6, 1, 1}, {-1, 1, 1}, {HIGH, 1, 1}, {1, LOW, 1}, {1, 1, HIGH}};
        for (int[] w : wrong) {
            d.due("change" + java.util.Arrays.toString(w), x.change(w[0], w[1], w[2]), -1);
        }
        d.due("add is left", x.towerOf(1, 1), 0);
        d.due("delay is left", x.towerOf(1, 2), 0);
        d.due("miles are left", x.towerOf(1, 3), 1);
        d.due("the kind is left", x.towerOf(1, 0), 1);
        d.due("the way is shorter", x.comes(0, 400, 1), 404);
    }

    private static void turn() {
        ShoutedHour x = ValleyA.made();
        d.due("turn to sleeper", x.turn(1, 5), 1);
        d.due("turn to drunk", x.turn(1, 3), 5);
        d.due("adds", x.towerOf(1, 4), 20);
        for (int kind : new int[] {0, 6, -1, LOW, HIGH}) {
            d.due("turn to " + kind, x.turn(1, kind), -1);
        }
        d.due("turn of none", x.turn(6, 1), -1);
        d.due("turn of -1", x.turn(-1, 1), -1);
        d.due("kind", x.towerOf(1, 0), 3);
    }

    private static void day() {
        ShoutedHour x = new ShoutedHour();
        d.due("day 6", x.day(6), 0);
        for (int v : new int[] {7, -1, LOW, HIGH}) {
            d.due("day " + v, x.day(v), -1);
        }
        d.due("day 0", x.day(0), 6);
    }

    private static void wind() {
        ShoutedHour x = new ShoutedHour();
        d.due("wind", x.wind(6, -3), 100);
        d.due("wind", x.wind(6, 3), 97);
        d.due("wind of another day", x.wind(5, 1), 100);
        int[][] wrong = {{6, 4}, {6, -4}, {7, 0}, {-1, 0}, {LOW, 0}, {HIGH, 0}, {0, LOW}, {0, HIGH}};
        for (int[] w : wrong) {
            d.due("wind" + java.util.Arrays.toString(w), x.wind(w[0], w[1]), -1);
        }
        d.due("wind", x.wind(6, 0), 103);
    }

    private static void pace() {
        ShoutedHour x = new ShoutedHour();
        d.due("west", x.pace(true), 4);
        d.due("east", x.pace(false), 4);
        x.wind(2, 3);
        x.wind(0, -2);
        d.due("west", x.pace(true), 2);
        d.due("east", x.pace(false), 6);
        x.day(2);
        d.due("west", x.pace(true), 7);
        d.due("east", x.pace(false), 1);
    }
}
