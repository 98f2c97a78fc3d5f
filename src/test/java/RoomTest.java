import java.lang.management.ManagementFactory;

/** All calls of a run live in one room: an object is small, and its calls make nothing new. */
public final class RoomTest {
    private static final int CALLS = 512;
    private static final long MOST_BYTES_AN_OBJECT = 100_000;
    private static final long MOST_BYTES_ALL_CALLS = 2_000;

    private final Checks checks = new Checks();
    private final com.sun.management.ThreadMXBean threads =
        (com.sun.management.ThreadMXBean) ManagementFactory.getThreadMXBean();

    public static void main(String[] args) {
        new RoomTest().run();
    }

    private void run() {
        checks.at("the room");
        MeetSets first = new MeetSets();
        useWhole(first);
        long before = made();
        MeetSets x = new MeetSets();
        long built = made();
        useWhole(x);
        long used = made();
        checks.same("an object is small", built - before < MOST_BYTES_AN_OBJECT, true);
        checks.same("calls make nothing new", used - built < MOST_BYTES_ALL_CALLS, true);
        checks.end();
    }

    private long made() {
        return threads.getThreadAllocatedBytes(Thread.currentThread().getId());
    }

    private static void useWhole(MeetSets x) {
        x.ground(10);
        for (int i = 0; i < 16; i++) x.set(3 << i % 9 | 1 << (i * 7 + 2) % 10);
        for (int i = 17; i < CALLS; i++) call(x, i);
    }

    private static void call(MeetSets x, int i) {
        switch (i % 24) {
            case 0: x.meeters(); break;
            case 1: x.meeter(i); break;
            case 2: x.best(1); break;
            case 3: x.other(i); break;
            case 4: x.take(); break;
            case 5: x.witness(); break;
            case 6: x.shares(); break;
            case 7: x.apart(); break;
            case 8: x.star(0); break;
            case 9: x.seen(i); break;
            case 10: x.dimension(0); break;
            case 11: x.colourings(2 + i % 3); break;
            case 12: x.colouring(); break;
            case 13: x.ears(); break;
            case 14: x.twoByTwo(); break;
            case 15: x.game(i / 24 % 2, 1); break;
            case 16: x.chance(3, 10); break;
            case 17: x.swings(i % 10); break;
            case 18: x.questions(1); break;
            case 19: x.digest(); break;
            case 20: x.drop(); break;
            case 21: x.set(i); break;
            case 22: x.otherless(); break;
            default: x.cost(i % 10, i % 21); break;
        }
    }
}
