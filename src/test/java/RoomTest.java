import java.lang.management.ManagementFactory;

/** What a desk takes of the room: its constructor a little, its calls nothing. */
public final class RoomTest {
    private static final com.sun.management.ThreadMXBean THREADS =
        (com.sun.management.ThreadMXBean) ManagementFactory.getThreadMXBean();
    private static final long MOST_OF_A_DESK = 100_000, MOST_OF_ITS_CALLS = 1_000;

    private static long taken() {
        return THREADS.getThreadAllocatedBytes(Thread.currentThread().getId());
    }

    public static void main(String[] args) {
        calls(new TileDesk());
        long before = taken();
        TileDesk desk = new TileDesk();
        long made = taken() - before;
        before = taken();
        int n = calls(desk);
        long called = taken() - before;
        System.out.println("RoomTest: a desk takes " + made + " bytes, " + n + " calls take " + called);
        if (made > MOST_OF_A_DESK || called > MOST_OF_ITS_CALLS) {
            System.exit(1);
        }
    }

    private static int calls(TileDesk desk) {
        int n = 0;
        for (int round = 0; round < 5; round++) {
            n += change(desk, round);
            for (int h = 0; h < 4; h++) {
                n += ask(desk, h);
            }
        }
        return n;
    }

    private static int change(TileDesk desk, int round) {
        desk.count(0, round % 2 == 0);
        desk.count(1, round % 3 == 0);
        desk.deal(round);
        desk.draw(0);
        desk.discard(1, desk.best(0));
        desk.open(1, 1, 3);
        desk.rack(0, round % 3, 5);
        desk.rack(1, round % 3, 5);
        desk.place(0, 1, round);
        desk.copy(0, 0, 1, 2, 3);
        desk.told(1, 2);
        desk.clear(3);
        desk.read(3, 0, 0, 3);
        desk.seed(round);
        desk.take(3, 5);
        desk.rule(round, 5, round - 1);
        return 17;
    }

    private static int ask(TileDesk desk, int h) {
        desk.tiles(h, 2);
        desk.about(h, 3);
        desk.done(h);
        desk.ways(h);
        desk.way(h, 0, 0);
        desk.distance(h);
        desk.waits(h, 0);
        desk.helps(h, 0);
        desk.without(h, 4);
        desk.more(h, 4);
        desk.best(h);
        desk.lack(h, 0, 2, 1);
        desk.odds(h, 1);
        desk.odds(h, 2);
        desk.unseen(h);
        desk.alike(h, 0);
        desk.worth(h);
        desk.by(h);
        desk.holds(h, 1);
        return 19;
    }
}
