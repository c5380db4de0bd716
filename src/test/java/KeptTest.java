/** Promises 50 and 51. */
public final class KeptTest {
    public static void main(String[] args) {
        Due d = new Due("KeptTest");
        ShoutedHour x = new ShoutedHour();
        d.due("again with nothing kept", x.again(), -3);
        d.due("again changes nothing", x.many(0), 0);
        x.tower(1, 20, 0, 5);
        x.tower(2, 10, 1, 5);
        x.tower(5, 10, 1, 5);
        x.wind(0, 1);
        x.wind(2, -3);
        x.day(2);
        x.seed(77);
        x.report(1, 20);
        x.report(2, 9999);
        Due.rulesOf(x, "plain add 7; proud if day = 2 silent;");
        x.cry(0, 400, true);
        x.prove(0, 400, true);
        x.sheet(0, 0, 3);
        x.write(0, 1, 5);
        x.shelf(0, 1, 0);
        x.shelf(1, 0, 2);
        x.act(1, 3, 4);
        Due.feedText(x, "plain");
        d.due("keep", x.keep(), 1);

        x.change(0, 1, 21);
        x.change(0, 2, 3);
        x.change(0, 3, 9);
        x.turn(0, 3);
        x.tower(4, 1, 1, 1);
        x.wind(0, 3);
        x.wind(2, 3);
        x.day(5);
        x.seed(5);
        x.forget();
        x.report(0, 1);
        x.hush();
        x.cry(3, 1000, true);
        Due.feedText(x, " add 1;");
        d.due("the tape isn't changed by keep", x.rules(), 1);
        Due.feedText(x, "abc");
        x.prove(3, 10, true);
        x.write(0, 1, 6);
        x.shelf(2, 0, 3);
        int bodies = x.many(6);

        for (int times = 0; times < 2; times++) {
            d.due("again", x.again(), 3);
            d.due("towers", x.many(0), 3);
            d.due("kind", x.towerOf(0, 0), 1);
            d.due("add", x.towerOf(0, 1), 20);
            d.due("delay", x.towerOf(0, 2), 0);
            d.due("miles", x.towerOf(0, 3), 5);
            d.due("rule add", x.towerOf(0, 4), 7);
            d.due("rule silent", x.towerOf(1, 5), 1);
            d.due("rules", x.many(1), 2);
            d.due("reports", x.many(2), 2);
            d.due("holding", x.many(4), 2);
            d.due("held", x.towerOf(1, 6), 420);
            d.due("came", x.towerOf(1, 7), 405);
            d.due("not held", x.towerOf(2, 6), -9);
            d.due("day", x.day(0), 2);
            d.due("wind 0", x.wind(0, 0), 101);
            d.due("wind 2", x.wind(2, 0), 97);
            d.due("seed", x.seed(1), 77);
            d.due("liar", x.liar(0), 1);
            x.forget();
            x.tower(1, 1, 1, 1);
            Due.rulesOf(x, "");
        }
        x.again();
        d.due("the tape isn't kept", x.many(5), 0);
        d.due("rows aren't kept", x.many(3), 1);
        d.due("row", x.row(0, 0), 3);
        d.due("sheets aren't kept", x.item(0, 0, 1), 6);
        d.due("shelves aren't kept", x.taken(2, 4), -11);
        d.due("the tower's place is back", x.tower(4, 1, 1, 1), 3);
        d.due("the shelf held on", x.taken(2, 4), 3);
        d.due("the trace isn't kept", x.many(6), bodies);
        d.due("keep again", x.keep(), 1);
        x.day(3);
        d.due("the latest kept", x.again(), 4);
        Due.feedText(x, "pl");
        x.again();
        d.due("again leaves the tape", x.many(5), 2);
        ShoutedHour y = new ShoutedHour();
        y.keep();
        y.tower(1, 0, 0, 1);
        d.due("kept with no towers", y.again(), 0);
        d.due("no towers", y.many(0), 0);
        d.end();
    }
}
