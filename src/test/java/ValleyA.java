/**
 * A valley for several tests. A cry from TOWER 0 at 400 on a DAY without WIND comes at
 * 400, 420, 434, 443, 487, 503 and is held as 400, 410, 422, 429, 445, 470.
 */
final class ValleyA {
    /** Of each TOWER its KIND, ADD, DELAY, MILES. */
    static final int[][] TOWERS = {{1, 0, 0, 1}, {1, 10, 2, 5}, {2, 6, 1, 3}, {5, 3, 4, 2}, {3, 8, 0, 10}, {4, 20, 5, 4}};

    private ValleyA() {
    }

    static ShoutedHour made() {
        ShoutedHour x = new ShoutedHour();
        for (int[] t : TOWERS) {
            x.tower(t[0], t[1], t[2], t[3]);
        }
        return x;
    }
}
