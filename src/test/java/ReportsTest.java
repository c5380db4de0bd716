/** Promises 33 to 36. */
public final class ReportsTest {
    private static final Due d = new Due("ReportsTest");
    private static final int LOW = Integer.MIN_VALUE, HIGH = Integer.MAX_VALUE;

    public static void main(String[] args) {
        report();
        forget();
        fits();
        liar();
        d.end();
    }

    private static void report() {
        ShoutedHour x = ValleyA.made();
        for (int k : new int[] {6, 9, -1, LOW, HIGH}) {
            d.due("report of " + k, x.report(k, 0), -1);
        }
        for (int hour : new int[] {-1, 10000, LOW, HIGH}) {
            d.due("report " + hour, x.report(0, hour), -1);
        }
        d.due("the least", x.report(0, 0), 0);
        d.due("the most", x.report(5, 9999), 1);
        for (int i = 2; i < 6; i++) {
            d.due("report", x.report(0, 0), i);
        }
        d.due("a seventh", x.report(0, 0), -2);
        d.due("a seventh, wrong", x.report(6, 0), -1);
        d.due("six", x.many(2), 6);
    }

    private static void forget() {
        ShoutedHour x = ValleyA.made();
        d.due("none", x.forget(), 0);
        x.report(0, 0);
        x.report(0, 1);
        d.due("two", x.forget(), 2);
        d.due("none", x.forget(), 0);
        d.due("none", x.many(2), 0);
        d.due("all fit again", x.fits(0, 0), 1440);
        d.due("numbered anew", x.report(0, 0), 0);
    }

    private static void fits(ShoutedHour x, int from, int many, int first, int last) {
        d.due("fits, how many", x.fits(from, 0), many);
        d.due("fits, the first", x.fits(from, 1), first);
        d.due("fits, the last", x.fits(from, 2), last);
    }

    private static void fits() {
        ShoutedHour x = ValleyA.made();
        fits(x, 0, 1440, 0, 1439);
        x.report(1, 410);
        fits(x, 0, 1, 400, 400);
        fits(x, 1, 1, 410, 410);
        fits(x, 2, 1, 400, 400);
        x.report(4, 445);
        fits(x, 0, 1, 400, 400);
        fits(x, 1, 1, 410, 410);
        fits(x, 2, 0, -3, -3);
        x.report(5, 471);
        fits(x, 0, 0, -3, -3);
        x.forget();
        x.report(3, 345);
        fits(x, 0, 0, -3, -3);
        fits(x, 3, 1, 345, 345);
        x.forget();
        x.report(3, 346);
        fits(x, 0, 1, 317, 317);
        x.forget();
        x.report(0, 0);
        fits(x, 0, 1, 0, 0);
        x.forget();
        x.report(0, 1439);
        fits(x, 0, 1, 1439, 1439);
        x.forget();
        x.report(0, 1440);
        fits(x, 0, 0, -3, -3);
        for (int k : new int[] {6, 9, -1, LOW, HIGH}) {
            d.due("fits from " + k, x.fits(k, 0), -1);
        }
        for (int what : new int[] {3, -1, LOW, HIGH}) {
            d.due("fits " + what, x.fits(0, what), -1);
        }
    }

    private static void liar() {
        ShoutedHour x = ValleyA.made();
        d.due("no reports", x.liar(0), -3);
        x.report(1, 410);
        d.due("it fits", x.liar(0), -3);
        x.report(2, 423);
        d.due("one of two: the least", x.liar(0), 0);
        x.report(3, 429);
        d.due("two against one", x.liar(0), 1);
        d.due("from another", x.liar(3), -3);
        x.report(4, 446);
        d.due("two against two", x.liar(0), -3);
        x.forget();
        x.report(1, 1449);
        d.due("at the last minute", x.liar(0), -3);
        x.forget();
        x.report(1, 10);
        d.due("at the first minute", x.liar(0), -3);
        x.forget();
        x.report(3, 100);
        d.due("one that nothing bears out", x.liar(0), 0);
        d.due("he cried himself", x.liar(3), -3);
        x.forget();
        x.report(1, 410);
        x.report(1, 411);
        x.report(1, 412);
        d.due("three", x.liar(0), -3);
        for (int k : new int[] {6, 9, -1, LOW, HIGH}) {
            d.due("liar from " + k, x.liar(k), -1);
        }
    }
}
