import com.sun.management.ThreadMXBean;
import java.lang.management.ManagementFactory;

/**
 * A run of 512 calls has room for some 600,000 objects and 7.3 million fields and elements in all.
 * The class makes its rows once, and eight kept states at most: a run stays under 400,000 bytes.
 */
public final class RoomTest {
    private static final int CALLS = 512;
    private static final long MOST_BYTES = 400_000;
    private static final ThreadMXBean THREADS = (ThreadMXBean) ManagementFactory.getThreadMXBean();

    public static void main(String[] args) {
        Checks checks = new Checks("RoomTest");
        for (int kind = 0; kind < 2 * KINDS; kind++) {
            long bytes = bytesOf(kind % KINDS);
            if (kind >= KINDS) {
                checks.due("kind " + (kind - KINDS) + " has made " + bytes + " bytes", bytes <= MOST_BYTES, true);
            }
        }
        checks.end();
    }

    private static final int KINDS = 14;

    private static long bytesOf(int kind) {
        long before = THREADS.getThreadAllocatedBytes(Thread.currentThread().getId());
        LivingDays x = new LivingDays();
        x.drawn(kind, 100, 20);
        for (int land = 0; land < 6; land++) {
            x.window(land, 90, 30);
            x.rule(land, 0, 10);
        }
        for (int k = 0; k < CALLS; k++) {
            call(x, kind, k);
        }
        return THREADS.getThreadAllocatedBytes(Thread.currentThread().getId()) - before;
    }

    private static int call(LivingDays x, int kind, int k) {
        switch (kind) {
            case 0:
                return k % 16 < 8 ? x.keep() : x.undo();
            case 1:
                return x.feed(0x61312c62, 0x322e2e39, 0x2c633320, 0x2c643420, 0x2c653520) + x.calendar(20);
            case 2:
                return x.feed(0x61312c62, 0x322e2e39, 0x2c633320, 0x2c643420, 0x2c653520) + x.trip(20, 3);
            case 3:
                return x.letter(k);
            case 4:
                return x.freest(k, 360, 0);
            case 5:
                return x.mayCome(k % 6, k, 360);
            case 6:
                return x.loose(k % 3, 0);
            case 7:
                return x.nearest(k % 3, 1);
            case 8:
                return x.cheapest(k, 1079, 0);
            case 9:
                return x.instead(k % 6, (k + 1) % 6, 0, 1079, k % 5);
            case 10:
                return x.slide(k, k + 100, k % 2 == 0 ? 5 : -5);
            case 11:
                return x.partner() + x.together(k % 3, 1);
            case 12:
                return x.count(k % 6) + x.pairs(k % 3, 1) + x.owed(k % 3);
            default:
                return x.feed(0x6863646e, 0, 0, 0, 0) + (x.treaty(k % 6, (k + 1) % 6, 4) ? 1 : 0);
        }
    }
}
