import java.lang.management.ManagementFactory;

/** No call takes room: all objects and arrays are made with the object. */
public final class RoomTest {
    public static void main(String[] args) {
        Due d = new Due("RoomTest");
        com.sun.management.ThreadMXBean threads = (com.sun.management.ThreadMXBean) ManagementFactory.getThreadMXBean();
        long id = Thread.currentThread().getId();
        ShoutedHour[] made = new ShoutedHour[100];
        make(made);
        long before = threads.getThreadAllocatedBytes(id);
        make(made);
        long each = (threads.getThreadAllocatedBytes(id) - before) / made.length;
        d.holds("an object takes at most 16000 bytes, not " + each, each <= 16000);

        ShoutedHour x = ValleyA.made();
        callAll(x);
        before = threads.getThreadAllocatedBytes(id);
        for (int i = 0; i < 50; i++) {
            callAll(x);
        }
        long calls = threads.getThreadAllocatedBytes(id) - before;
        // some bytes may be the measuring's own
        d.holds("2,900 calls take no room, not " + calls + " bytes", calls < 4000);
        d.end();
    }

    private static void make(ShoutedHour[] made) {
        for (int i = 0; i < made.length; i++) {
            made[i] = new ShoutedHour();
        }
    }

    private static void callAll(ShoutedHour x) {
        x.feed(0x206e69616c70L, 6);
        x.feed(0x3b37206461646120L, 8);
        x.rules();
        x.tower(1, 1, 1, 1);
        x.change(1, 1, 11);
        x.turn(1, 1);
        x.towerOf(1, 4);
        x.towerOf(1, 5);
        x.day(0);
        x.wind(0, 1);
        x.pace(true);
        x.cry(0, 400, true);
        x.shows(1, 600);
        x.hush();
        x.comes(0, 400, 5);
        x.holds(0, 400, 5);
        x.off(0, 400, 5);
        x.worst(0, 400);
        x.within(0, 400, 9);
        x.bestAdd(4, 0, 400);
        x.clocks(1, 400);
        x.fewest(1, 400);
        x.crossed(400, 400);
        x.noon(4, 400);
        x.firstNoon(400);
        x.waits(1, 4, 400);
        x.mender(0, 400);
        x.bestDay(4, 0, 400);
        x.latest(0, 4, 400);
        x.seed(5);
        x.draw(1);
        x.often(4, 20, 400, 60);
        x.lost(1, 400);
        x.report(1, 410);
        x.fits(0, 0);
        x.liar(0);
        x.forget();
        x.prove(0, 400, true);
        x.row(1, 1);
        x.alterRow(1, 1, 1);
        x.judge(true);
        x.sheet(0, 3, 40);
        x.write(0, 3, 7);
        x.item(0, 3, 3);
        x.sheet(0, 0, 40);
        x.adds(0, 0, 9);
        x.shelf(0, 0, 4);
        x.shelf(1, 1, 0);
        x.taken(0, 2);
        x.taken(1, 10);
        x.act(0, 0, 5);
        x.act(0, 1, 5);
        x.act(0, 2, 5);
        x.act(0, 3, 5);
        x.trace(0);
        x.many(4);
        x.keep();
        x.again();
    }
}
