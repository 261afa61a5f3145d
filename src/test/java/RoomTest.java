import com.sun.management.ThreadMXBean;
import java.lang.management.ManagementFactory;

/** All calls of a run live in one room: an object is small, and no call makes anything. */
public final class RoomTest {
    private static final long MOST_BYTES_OF_ONE = 8000;
    private static final ThreadMXBean THREADS = (ThreadMXBean) ManagementFactory.getThreadMXBean();
    private static final Due due = new Due("RoomTest");

    public static void main(String[] args) {
        long id = Thread.currentThread().getId();
        PawnLane x = Due.lane("s90u11h22w33a44v55 t011t122t233t344t455t501");
        every(x);
        long before = THREADS.getThreadAllocatedBytes(id);
        PawnLane y = new PawnLane();
        long one = THREADS.getThreadAllocatedBytes(id) - before;
        due.holds("an object of " + one + " bytes is small", one < MOST_BYTES_OF_ONE);
        before = THREADS.getThreadAllocatedBytes(id);
        long digest = 0;
        for (int i = 0; i < 100; i++) {
            digest += every(x) + every(y);
        }
        long made = THREADS.getThreadAllocatedBytes(id) - before;
        due.holds("calls made " + made + " bytes (" + digest + ")", made < 1000);
        due.end();
    }

    private static long every(PawnLane x) {
        x.row(0, 6);
        x.row(1, 3);
        x.lay(0, 1, 2);
        x.at(0, 1);
        x.at(0, 9);
        x.copy(0, 0, 1, 0, 3);
        x.mean(0);
        x.tear(1);
        x.text(0, 60);
        x.put(0, 0, 115);
        x.fault(0);
        x.fault(3);
        x.lane(0);
        x.lane(3);
        for (int s = 0; s < 6; s++) {
            x.stock(s, s);
            x.deep(s);
            x.inside(s);
            x.goods(s);
            x.worth(s);
            x.chalk(s, 6);
            x.free(s, 2);
            x.shuts(s);
            for (int what = 0; what < 7; what++) {
                x.shop(s, what);
                x.mark(s, what);
            }
        }
        x.rings();
        x.hangs();
        x.can();
        x.order(2);
        x.ways();
        x.most();
        x.least();
        x.till();
        x.run(2);
        x.missing(2);
        x.through(1);
        x.odds(5);
        x.redeem(0);
        x.pawn(0, 1, 1);
        x.week();
        x.give(0, 5);
        x.keep(0);
        x.lots(20, 7);
        x.undo(3);
        x.on(0);
        x.findings(x.finding());
        return x.digest() + x.asked() + x.upper() + x.lower() + x.count(8);
    }
}
