/**
 * A valley for several tests. A cry from TOWER 0 at 400 on a DAY without WIND comes at
 * 400, 420, 434, 443, 487, 503 and is held as 400, 410, 422, 429, 445, 470.
 */
final class ValleyA {
    private ValleyA() {
    }

    static ShoutedHour made() {
        ShoutedHour x = new ShoutedHour();
        x.tower(1, 0, 0, 1);
        x.tower(1, 10, 2, 5);
        x.tower(2, 6, 1, 3);
        x.tower(5, 3, 4, 2);
        x.tower(3, 8, 0, 10);
        x.tower(4, 20, 5, 4);
        return x;
    }
}
