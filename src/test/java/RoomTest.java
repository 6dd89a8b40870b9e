import com.sun.management.ThreadMXBean;
import java.lang.management.ManagementFactory;

/** All calls of a run live in one room: the dearest runs must not make more than a small part of what fits there. */
final class RoomTest {
    private static final long BYTES_MOST = 4_000_000;

    public static void main(String[] args) {
        for (int i = 0; i < 2; i++) {
            made("nights in three full WORKS", RoomTest::nights);
            made("loads, links and labels", RoomTest::rows);
            made("telling", RoomTest::telling);
        }
        Check.end();
    }

    private static void made(String what, Runnable calls) {
        ThreadMXBean bean = (ThreadMXBean) ManagementFactory.getThreadMXBean();
        long before = bean.getThreadAllocatedBytes(Thread.currentThread().getId());
        calls.run();
        long bytes = bean.getThreadAllocatedBytes(Thread.currentThread().getId()) - before;
        Check.about("room");
        Check.due(what + " make " + bytes + " bytes, which is few", bytes < BYTES_MOST ? 1 : 0, 1);
    }

    private static SortWorks full() {
        SortWorks x = new SortWorks();
        for (int g = 0; g < 40; g++) {
            x.gear(g == 0 ? 3 : g % 5 == 0 ? 2 : 0, 8);
            x.links(g, 1);
            x.link(g, 0, (g + 1) % 40);
        }
        x.works(1);
        x.copy(0);
        x.works(2);
        x.copy(0);
        return x;
    }

    private static void nights() {
        SortWorks x = full();
        for (int i = 0; i < 380; i++) {
            if (i % 20 == 0) {
                x.works(i / 20 % 3);
            }
            x.night(i, 20);
        }
    }

    private static void rows() {
        SortWorks x = full();
        x.come(0, 1, 1);
        for (int i = 0; i < 80; i++) {
            x.letter(':');
            x.letter('1');
            x.letter(';');
            x.load();
            x.links(1, 3);
            x.label(1, 12);
        }
    }

    private static void telling() {
        SortWorks x = full();
        for (int i = 0; i < 80; i++) {
            x.digest();
            x.reach(0);
            x.far(1, 0);
            x.ring(2);
        }
    }
}
