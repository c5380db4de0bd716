/** Promises 11 to 32. */
public final class CriesTest {
    private static final Due d = new Due("CriesTest");
    private static final int LOW = Integer.MIN_VALUE, HIGH = Integer.MAX_VALUE;
    private static final int[] NO_TOWER_OF_SIX = {6, 9, -1, 31, 32, LOW, HIGH};
    private static final int[] NO_T = {-1, 1440, LOW, HIGH};
    private static final int[] NO_BOUND = {-1, 1000, LOW, HIGH};

    public static void main(String[] args) {
        cry();
        shows();
        hush();
        comesAndHolds();
        sleepers();
        silentOnes();
        winds();
        off();
        worst();
        within();
        bestAdd();
        clocks();
        fewest();
        crossed();
        noons();
        waits();
        mender();
        bestDay();
        latest();
        seedAndDraw();
        often();
        lost();
        askingChangesNothing();
        d.end();
    }

    private static void cry() {
        ShoutedHour x = ValleyA.made();
        d.due("cry west", x.cry(0, 400, true), 6);
        held(x, "west", 400, 400, 410, 420, 422, 434, 429, 443, 445, 487, 470, 503);
        d.due("cry east", x.cry(3, 500, false), 4);
        held(x, "east", 522, 543, 522, 521, 512, 508, 500, 500, 445, 487, 470, 503);
        d.due("cry of the last", x.cry(5, 7, true), 1);
        d.due("cry of the first", x.cry(0, 0, false), 1);
        held(x, "ends", 0, 0, 522, 521, 512, 508, 500, 500, 445, 487, 7, 7);
        d.due("cry that isn't heard", x.cry(0, 316, true), 3);
        d.due("not heard: kept", x.towerOf(3, 6), 500);
        for (int k : NO_TOWER_OF_SIX) {
            d.due("cry from " + k, x.cry(k, 0, true), -1);
        }
        for (int t : NO_T) {
            d.due("cry at " + t, x.cry(0, t, true), -1);
        }
        d.due("refused: kept", x.towerOf(0, 6), 316);
    }

    private static void held(ShoutedHour x, String what, int... due) {
        for (int k = 0; k < 6; k++) {
            d.due(what + " held by " + k, x.towerOf(k, 6), due[2 * k]);
            d.due(what + " came to " + k, x.towerOf(k, 7), due[2 * k + 1]);
        }
    }

    private static void shows() {
        ShoutedHour x = ValleyA.made();
        d.due("nothing held", x.shows(4, 500), -3);
        x.cry(0, 400, true);
        d.due("shows", x.shows(4, 500), 458);
        d.due("shows at CAME", x.shows(4, 487), 445);
        d.due("shows ahead", x.shows(4, 486), -4);
        d.due("shows at 0", x.shows(4, 0), -4);
        d.due("shows late", x.shows(4, 9999), 9957);
        d.due("no minute", x.shows(4, 10000), -1);
        d.due("no minute", x.shows(4, -1), -1);
        for (int k : NO_TOWER_OF_SIX) {
            d.due("shows of " + k, x.shows(k, 0), -1);
        }
        x.hush();
        d.due("hushed", x.shows(4, 500), -3);
        d.due("hushed, wrong", x.shows(4, 10000), -1);
    }

    private static void hush() {
        ShoutedHour x = ValleyA.made();
        d.due("hush", x.hush(), 0);
        x.cry(4, 400, true);
        d.due("hush", x.hush(), 2);
        d.due("held", x.towerOf(4, 6), -9);
        d.due("came", x.towerOf(5, 7), -9);
        d.due("hush", x.hush(), 0);
        x.cry(0, 0, false);
        d.due("the hour 0 is held, too", x.many(4), 1);
        d.due("the hour 0", x.shows(0, 0), 0);
    }

    private static void comesAndHolds() {
        ShoutedHour x = ValleyA.made();
        int[] comes = {400, 420, 434, 443, 487, 503};
        int[] holds = {400, 410, 422, 429, 445, 470};
        for (int k = 0; k < 6; k++) {
            d.due("comes", x.comes(0, 400, k), comes[k]);
            d.due("holds", x.holds(0, 400, k), holds[k]);
        }
        int[] back = {503, 481, 468, 456, 416, 400};
        int[] heldBack = {445, 445, 435, 423, 416, 400};
        for (int k = 0; k < 6; k++) {
            d.due("comes east", x.comes(5, 400, k), back[k]);
            d.due("holds east", x.holds(5, 400, k), heldBack[k]);
        }
        int[] both = {143, 121, 108, 100, 140, 156};
        int[] heldBoth = {122, 122, 112, 100, 116, 141};
        for (int k = 0; k < 6; k++) {
            d.due("comes both ways", x.comes(3, 100, k), both[k]);
            d.due("holds both ways", x.holds(3, 100, k), heldBoth[k]);
        }
        d.due("to itself", x.comes(5, 1439, 5), 1439);
        x.change(0, 1, 5);
        d.due("the first adds, too", x.holds(5, 400, 0), 450);
        d.due("not where it begins", x.holds(0, 400, 1), 410);
        d.due("past the day", x.comes(0, 1439, 5), 1542);
        d.due("past the day", x.holds(0, 1439, 5), 1509);
        d.due("not", x.comes(0, 100, 3), -3);
        d.due("not", x.holds(0, 100, 3), -3);
        for (int k : NO_TOWER_OF_SIX) {
            d.due("comes from " + k, x.comes(k, 0, 0), -1);
            d.due("comes to " + k, x.comes(0, 0, k), -1);
            d.due("holds from " + k, x.holds(k, 0, 0), -1);
            d.due("holds of " + k, x.holds(0, 0, k), -1);
            d.due("off from " + k, x.off(k, 0, 0), -1);
            d.due("off of " + k, x.off(0, 0, k), -1);
        }
        for (int t : NO_T) {
            d.due("comes at " + t, x.comes(0, t, 0), -1);
            d.due("holds at " + t, x.holds(0, t, 0), -1);
            d.due("off at " + t, x.off(0, t, 0), -1);
        }
    }

    private static void sleepers() {
        ShoutedHour x = ValleyA.made();
        d.due("at 359", x.comes(0, 316, 3), -3);
        d.due("beyond him", x.comes(0, 316, 4), -3);
        d.due("at 360", x.comes(0, 317, 3), 360);
        d.due("beyond him", x.comes(0, 317, 4), 404);
        d.due("he himself early", x.holds(3, 0, 3), 0);
        d.due("he cries early", x.comes(3, 0, 4), 40);
        d.due("east, at 359", x.comes(5, 303, 2), -3);
        d.due("east, at 360", x.comes(5, 304, 2), 372);
    }

    private static void silentOnes() {
        ShoutedHour x = ValleyA.made();
        Due.rulesOf(x, "proud if number = 2 silent;");
        d.due("he hears", x.holds(0, 400, 2), 422);
        d.due("beyond him", x.comes(0, 400, 3), -3);
        d.due("east he hears", x.comes(5, 400, 2), 468);
        d.due("east beyond him", x.comes(5, 400, 1), -3);
        d.due("he begins", x.comes(2, 400, 3), 408);
        d.due("he begins", x.comes(2, 400, 1), 412);
        d.due("cry", x.cry(0, 400, true), 3);
    }

    private static void winds() {
        ShoutedHour x = ValleyA.made();
        x.wind(1, 2);
        d.due("another day", x.comes(0, 400, 5), 503);
        x.day(1);
        int[] west = {400, 430, 450, 463, 527, 551};
        for (int k = 0; k < 6; k++) {
            d.due("west", x.comes(0, 400, k), west[k]);
        }
        d.due("east", x.comes(3, 100, 2), 104);
        d.due("east", x.comes(3, 100, 1), 111);
        d.due("east", x.comes(3, 100, 0), 123);
    }

    private static void off() {
        ShoutedHour x = ValleyA.made();
        int[] off = {0, -10, -12, -14, -42, -33};
        for (int k = 0; k < 6; k++) {
            d.due("off", x.off(0, 400, k), 10000 + off[k]);
        }
        d.due("off above 0", x.off(3, 100, 2), 10004);
        d.due("not", x.off(0, 316, 3), -3);
    }

    private static void worst() {
        ShoutedHour x = ValleyA.made();
        d.due("worst", x.worst(0, 400), 4);
        d.due("worst", x.worst(3, 100), 4);
        d.due("worst", x.worst(5, 400), 0);
        d.due("of those to whom it comes", x.worst(0, 100), 2);
        d.due("of two that are right the least", x.worst(5, 100), 4);
        x.change(1, 1, 30);
        d.due("too far on", x.worst(0, 100), 1);
        x.change(2, 1, 7);
        d.due("as far: the least", x.worst(0, 100), 1);
        x.change(2, 1, 8);
        d.due("farther", x.worst(0, 100), 2);
        for (int k : NO_TOWER_OF_SIX) {
            d.due("worst from " + k, x.worst(k, 0), -1);
        }
        for (int t : NO_T) {
            d.due("worst at " + t, x.worst(0, t), -1);
        }
    }

    private static void within() {
        ShoutedHour x = ValleyA.made();
        int[][] due = {{0, 1}, {9, 1}, {10, 2}, {11, 2}, {12, 3}, {13, 3}, {14, 4}, {33, 5}, {41, 5}, {42, 6}, {999, 6}};
        for (int[] w : due) {
            d.due("within " + w[0], x.within(0, 400, w[0]), w[1]);
        }
        d.due("comes to three", x.within(0, 100, 999), 3);
        d.due("above 0, too", x.within(3, 100, 3), 2);
        d.due("above 0, too", x.within(3, 100, 4), 3);
        for (int k : NO_TOWER_OF_SIX) {
            d.due("within from " + k, x.within(k, 0, 0), -1);
        }
        for (int t : NO_T) {
            d.due("within at " + t, x.within(0, t, 0), -1);
        }
        for (int bound : NO_BOUND) {
            d.due("within " + bound, x.within(0, 0, bound), -1);
        }
    }

    private static void bestAdd() {
        ShoutedHour x = ValleyA.made();
        d.due("plain", x.bestAdd(1, 0, 400), 20);
        d.due("by 58 too few, and on day 6 by 48", x.bestAdd(0, 5, 400), 53);
        x.wind(1, 2);
        d.due("plain", x.bestAdd(1, 0, 400), 25);
        d.due("proud", x.bestAdd(2, 0, 400), 16);
        d.due("drunk, also on day 6; of two the least", x.bestAdd(4, 0, 400), 36);
        d.due("sleeper, on the one day", x.bestAdd(3, 0, 300), 37);
        d.due("on no day", x.bestAdd(3, 0, 200), -3);
        d.due("add is left", x.towerOf(4, 1), 8);
        Due.rulesOf(x, "plain if add < 50 more 30; plain add 25;");
        d.due("rules look at add", x.bestAdd(1, 0, 400), 50);
        Due.rulesOf(x, "watchman add 25;");
        d.due("all the same", x.bestAdd(1, 0, 400), 0);
        Due.rulesOf(x, "");
        x.wind(1, 0);
        x.wind(0, -2);
        d.due("on day 0, too", x.bestAdd(1, 0, 400), 15);
        x.change(1, 3, 20);
        x.wind(0, 3);
        d.due("the most", x.bestAdd(1, 0, 1439), 99);
        for (int k : NO_TOWER_OF_SIX) {
            d.due("bestAdd of " + k, x.bestAdd(k, 0, 0), -1);
            d.due("bestAdd from " + k, x.bestAdd(0, k, 0), -1);
        }
        for (int t : NO_T) {
            d.due("bestAdd at " + t, x.bestAdd(1, 0, t), -1);
        }
        d.due("bestAdd of the same", x.bestAdd(1, 1, 400), -1);
    }

    private static void clocks() {
        ShoutedHour x = ValleyA.made();
        int[][] due = {{1, 42}, {17, 14}, {9, 24}, {21, 10}, {19, 9}, {51, 2}, {63, 0}, {59, 0}, {3, 30}};
        for (int[] c : due) {
            d.due("clocks " + c[0], x.clocks(c[0], 400), c[1]);
        }
        d.due("without the first", x.clocks(62, 400), -3);
        d.due("none", x.clocks(0, 400), -3);
        d.due("not heard", x.clocks(1, 100), -3);
        d.due("he has one", x.clocks(9, 100), 24);
        d.due("with others", x.clocks(64, 400), -1);
        d.due("with others", x.clocks(65, 400), -1);
        d.due("below 0", x.clocks(-1, 400), -1);
        d.due("below 0", x.clocks(LOW, 400), -1);
        d.due("too many", x.clocks(HIGH, 400), -1);
        for (int t : NO_T) {
            d.due("clocks at " + t, x.clocks(1, t), -1);
        }
        Due.rulesOf(x, "proud if number = 2 silent;");
        d.due("a silent one", x.clocks(1, 400), -3);
        d.due("the next has one", x.clocks(9, 400), 24);
        d.due("the silent one has one", x.clocks(5, 400), 29);
        ShoutedHour y = new ShoutedHour();
        d.due("no towers", y.clocks(0, 0), 0);
        d.due("no towers", y.clocks(1, 0), -1);
    }

    private static void fewest() {
        ShoutedHour x = ValleyA.made();
        int[][] due = {{0, 59}, {9, 19}, {10, 19}, {13, 19}, {14, 17}, {23, 17}, {24, 9}, {28, 9}, {29, 5}, {30, 3}, {41, 3}, {42, 1}, {999, 1}};
        for (int[] f : due) {
            d.due("fewest " + f[0], x.fewest(f[0], 400), f[1]);
        }
        d.due("not heard", x.fewest(999, 100), 9);
        for (int bound : NO_BOUND) {
            d.due("fewest " + bound, x.fewest(bound, 0), -1);
        }
        for (int t : NO_T) {
            d.due("fewest at " + t, x.fewest(0, t), -1);
        }
        ShoutedHour y = new ShoutedHour();
        d.due("no towers", y.fewest(0, 0), -3);
        d.due("no towers, wrong", y.fewest(0, 1440), -1);
        for (int k = 0; k < 9; k++) {
            y.tower(1, 0, 0, 1);
        }
        d.due("nine of nine", y.fewest(0, 0), 511);
        d.due("three of nine", y.fewest(8, 0), 73);
    }

    private static void crossed() {
        ShoutedHour x = ValleyA.made();
        d.due("crossed", x.crossed(400, 400), 4);
        d.due("at the same minute", x.crossed(400, 387), 3);
        d.due("a minute later", x.crossed(400, 388), 4);
        d.due("at the first", x.crossed(1000, 897), 0);
        d.due("a minute later", x.crossed(1000, 898), 1);
        d.due("at the last", x.crossed(400, 503), 5);
        d.due("not crossed", x.crossed(400, 504), -3);
        d.due("one doesn't come there", x.crossed(100, 100), -3);
        d.due("a sleeper is in the way", x.crossed(400, 297), 4);
        Due.rulesOf(x, "sleeper silent;");
        d.due("a silent one, both ways", x.crossed(400, 387), 3);
        d.due("a silent one, both ways", x.crossed(400, 388), -3);
        Due.rulesOf(x, "");
        x.wind(1, 1);
        x.day(1);
        d.due("winds, both ways", x.crossed(400, 411), 3);
        d.due("winds, both ways", x.crossed(400, 412), 4);
        x.day(0);
        for (int t : NO_T) {
            d.due("crossed at " + t, x.crossed(t, 0), -1);
            d.due("crossed at " + t, x.crossed(0, t), -1);
        }
        ShoutedHour y = new ShoutedHour();
        d.due("no towers", y.crossed(0, 0), -3);
        d.due("no towers, wrong", y.crossed(0, 1440), -1);
        y.tower(1, 0, 0, 1);
        d.due("one tower", y.crossed(5, 5), 0);
        d.due("one tower", y.crossed(5, 6), -3);
    }

    private static void noons() {
        ShoutedHour x = ValleyA.made();
        int[] noon = {720, 730, 732, 734, 762, 753};
        for (int k = 0; k < 6; k++) {
            d.due("noon", x.noon(k, 400), 10000 + noon[k]);
        }
        d.due("ahead of the cry", x.noon(1, 1439), 10730);
        d.due("not", x.noon(3, 100), -3);
        d.due("first noon", x.firstNoon(400), 0);
        x.change(1, 1, 32);
        d.due("too far on", x.noon(1, 400), 10708);
        d.due("first noon; of two the least", x.firstNoon(400), 1);
        d.due("two", x.noon(2, 400), 10710);
        x.change(2, 1, 7);
        d.due("as early", x.noon(2, 400), 10708);
        d.due("the least", x.firstNoon(400), 1);
        x.change(2, 1, 8);
        d.due("earlier", x.firstNoon(100), 2);
        x.turn(2, 5);
        d.due("not come there", x.firstNoon(100), 1);
        ShoutedHour y = new ShoutedHour();
        d.due("no towers", y.firstNoon(0), -3);
        for (int t : NO_T) {
            d.due("noon at " + t, x.noon(0, t), -1);
            d.due("first noon at " + t, x.firstNoon(t), -1);
            d.due("no towers, wrong", y.firstNoon(t), -1);
        }
        for (int k : NO_TOWER_OF_SIX) {
            d.due("noon of " + k, x.noon(k, 0), -1);
        }
        for (int k = 0; k < 9; k++) {
            y.tower(3, 99, 0, 1);
        }
        d.due("noon below 0", y.noon(8, 0), 10000 + 720 - 8 * 198 + 32);
    }

    private static void waits() {
        ShoutedHour x = ValleyA.made();
        d.due("west", x.waits(1, 4, 400), 10000 + 762 - (730 + 300));
        d.due("east", x.waits(4, 1, 400), 10000 + 730 - (762 + 300));
        d.due("next", x.waits(0, 1, 400), 10000 + 730 - (720 + 100));
        x.change(1, 1, 99);
        x.turn(1, 3);
        d.due("in good time", x.waits(1, 0, 400), 10000 + 720 - (542 + 100));
        d.due("one has none", x.waits(0, 3, 100), -3);
        d.due("the other has none", x.waits(3, 0, 100), -3);
        d.due("the same", x.waits(2, 2, 400), -1);
        for (int k : NO_TOWER_OF_SIX) {
            d.due("waits from " + k, x.waits(k, 0, 0), -1);
            d.due("waits to " + k, x.waits(0, k, 0), -1);
        }
        for (int t : NO_T) {
            d.due("waits at " + t, x.waits(0, 1, t), -1);
        }
    }

    private static void mender() {
        ShoutedHour x = ValleyA.made();
        d.due("mender", x.mender(0, 400), 1);
        d.due("of those to whom it comes", x.mender(0, 300), 1);
        d.due("the kind is left", x.towerOf(1, 0), 1);
        Due.rulesOf(x, "mender silent;");
        d.due("to no fewer", x.mender(0, 400), -3);
        Due.rulesOf(x, "mender if number = 1 more 8; mender if number = 4 more 90;");
        d.due("the least sum", x.mender(0, 400), 1);
        Due.rulesOf(x, "mender if number = 2 more 14;");
        d.due("the least sum", x.mender(0, 400), 2);
        ShoutedHour y = new ShoutedHour();
        y.tower(1, 0, 0, 1);
        y.tower(1, 18, 1, 5);
        y.tower(1, 20, 2, 5);
        d.due("as good as another: the least", y.mender(0, 400), 1);
        y.change(1, 2, 9);
        d.due("none is better", y.mender(1, 400), -3);
        y.change(0, 1, 10);
        y.change(0, 2, 5);
        d.due("the first", y.mender(1, 400), 0);
        for (int k : NO_TOWER_OF_SIX) {
            d.due("mender from " + k, x.mender(k, 0), -1);
        }
        for (int t : NO_T) {
            d.due("mender at " + t, x.mender(0, t), -1);
        }
    }

    private static void bestDay() {
        ShoutedHour x = ValleyA.made();
        d.due("all alike", x.bestDay(1, 0, 400), 0);
        d.due("the drunk's day", x.bestDay(4, 0, 400), 6);
        x.wind(0, 1);
        x.wind(1, 2);
        x.wind(2, -3);
        d.due("the nearest", x.bestDay(1, 0, 400), 2);
        d.due("only then", x.bestDay(4, 0, 300), 1);
        d.due("on no day", x.bestDay(4, 0, 100), -3);
        d.due("itself", x.bestDay(2, 2, 100), 0);
        d.due("the day is left", x.day(0), 0);
        for (int k : NO_TOWER_OF_SIX) {
            d.due("bestDay of " + k, x.bestDay(k, 0, 0), -1);
            d.due("bestDay from " + k, x.bestDay(0, k, 0), -1);
        }
        for (int t : NO_T) {
            d.due("bestDay at " + t, x.bestDay(0, 0, t), -1);
        }
    }

    private static void latest() {
        ShoutedHour x = ValleyA.made();
        d.due("latest", x.latest(0, 4, 500), 413);
        d.due("latest", x.latest(0, 4, 446), 359);
        d.due("just awake", x.latest(0, 4, 404), 317);
        d.due("asleep", x.latest(0, 4, 403), -3);
        d.due("of all", x.latest(0, 5, 9999), 1439);
        d.due("of all", x.latest(0, 5, 1542), 1439);
        d.due("one less", x.latest(0, 5, 1541), 1438);
        d.due("at 0", x.latest(0, 1, 20), 0);
        d.due("not at 0", x.latest(0, 1, 19), -3);
        d.due("itself", x.latest(2, 2, 0), 0);
        d.due("itself", x.latest(2, 2, 1439), 1439);
        d.due("itself", x.latest(2, 2, 1440), 1439);
        d.due("east", x.latest(5, 0, 503), 400);
        x.wind(0, 1);
        d.due("with a wind", x.latest(0, 1, 500), 475);
        Due.rulesOf(x, "plain silent;");
        d.due("beyond a silent one", x.latest(0, 2, 500), -3);
        for (int k : NO_TOWER_OF_SIX) {
            d.due("latest of " + k, x.latest(k, 0, 0), -1);
            d.due("latest from " + k, x.latest(0, k, 0), -1);
        }
        for (int by : new int[] {-1, 10000, LOW, HIGH}) {
            d.due("latest by " + by, x.latest(0, 0, by), -1);
        }
    }

    private static void seedAndDraw() {
        ShoutedHour x = new ShoutedHour();
        int[] winds = {0, 2, 2, -1, -3, -3, -1};
        for (int day = 0; day < 7; day++) {
            d.due("draw", x.draw(day), 100 + winds[day]);
        }
        for (int day : new int[] {7, -1, LOW, HIGH}) {
            d.due("draw " + day, x.draw(day), -1);
        }
        d.due("z", x.seed(1), -639453696);
        d.due("z", x.seed(LOW), 1);
        d.due("z", x.seed(1), LOW);
        d.due("wind", x.wind(1, 0), 102);
        x.day(4);
        d.due("pace", x.pace(true), 1);
        d.due("the same again", x.draw(0), 100);
        d.due("the same again", x.draw(0), 102);
    }

    private static void often() {
        ShoutedHour x = ValleyA.made();
        // the first winds drawn: 0 2 2 -1 -3 -3 -1 -3 -2 2; OFF of TOWER 1 is 10 - 5 (4 + wind)
        d.due("once", x.often(1, 10, 400, 1), 1);
        d.due("ten", x.often(1, 10, 400, 10), 7);
        d.due("nearer", x.often(1, 5, 400, 10), 6);
        d.due("nearest", x.often(1, 0, 400, 10), 1);
        d.due("itself", x.often(0, 0, 400, 60), 60);
        d.due("not come there", x.often(3, 999, 100, 60), 0);
        d.due("the wind is left", x.wind(0, 0), 100);
        d.due("z is left", x.seed(1), 1);
        x.day(3);
        Due.rulesOf(x, "plain if wind = 5 add 30;");
        d.due("rules look at it", x.often(1, 0, 400, 10), 4);
        d.due("no mornings", x.often(0, 0, 0, 0), -1);
        d.due("too many mornings", x.often(0, 0, 0, 61), -1);
        d.due("below 0", x.often(0, 0, 0, LOW), -1);
        for (int k : NO_TOWER_OF_SIX) {
            d.due("often of " + k, x.often(k, 0, 0, 1), -1);
        }
        for (int t : NO_T) {
            d.due("often at " + t, x.often(0, 0, t, 1), -1);
        }
        for (int bound : NO_BOUND) {
            d.due("often by " + bound, x.often(0, bound, 0, 1), -1);
        }
    }

    private static void lost() {
        ShoutedHour x = ValleyA.made();
        for (int k = 0; k < 6; k++) {
            d.due("lost by " + k, x.lost(k, 400), 5 - k);
        }
        d.due("by the first", x.lost(0, 300), 2);
        d.due("comes to two", x.lost(1, 300), 1);
        d.due("from the first it is heard", x.lost(1, 317), 4);
        d.due("to none beyond", x.lost(2, 300), 0);
        d.due("not come there", x.lost(3, 300), 0);
        d.due("not come there", x.lost(5, 300), 0);
        for (int k : NO_TOWER_OF_SIX) {
            d.due("lost by " + k, x.lost(k, 0), -1);
        }
        for (int t : NO_T) {
            d.due("lost at " + t, x.lost(0, t), -1);
        }
    }

    private static void askingChangesNothing() {
        ShoutedHour x = ValleyA.made();
        x.cry(0, 400, true);
        x.wind(0, 1);
        x.comes(0, 500, 1);
        x.holds(0, 500, 1);
        x.off(0, 500, 1);
        x.worst(0, 500);
        x.within(0, 500, 5);
        x.bestAdd(1, 0, 500);
        x.clocks(1, 500);
        x.fewest(3, 500);
        x.crossed(500, 500);
        x.noon(1, 500);
        x.firstNoon(500);
        x.waits(0, 1, 500);
        x.mender(0, 500);
        x.bestDay(1, 0, 500);
        x.latest(0, 1, 500);
        x.often(1, 1, 500, 9);
        x.lost(1, 500);
        x.fits(0, 0);
        x.liar(0);
        x.prove(0, 500, true);
        held(x, "after asking", 400, 400, 410, 420, 422, 434, 429, 443, 445, 487, 470, 503);
        d.due("wind", x.wind(0, 0), 101);
        d.due("z", x.seed(0), 1);
        d.due("day", x.day(0), 0);
        d.due("add", x.towerOf(1, 1), 10);
        for (int k = 0; k < 6; k++) {
            d.due("kind", x.towerOf(k, 0), new int[] {1, 1, 2, 5, 3, 4}[k]);
        }
    }
}
