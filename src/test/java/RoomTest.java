import com.sun.management.ThreadMXBean;
import java.lang.management.ManagementFactory;
import java.lang.reflect.Array;
import java.lang.reflect.Field;
import java.lang.reflect.Modifier;
import java.util.ArrayList;
import java.util.List;

/** All calls of a run live in one room: an object is of few parts, and no call makes anything. */
public final class RoomTest {
    /** The room takes 600,000 objects and 7.3 million fields and elements: so it has place for 5000 lanes at least. */
    private static final int LANES = 5000, MOST_OBJECTS = 600000 / LANES, MOST_FIELDS = 7300000 / LANES;
    /** Rounds of every(), some 190 calls each, that stay within the 512 calls that are promised for an object. */
    private static final int ROUNDS = 2;
    private static final ThreadMXBean THREADS = (ThreadMXBean) ManagementFactory.getThreadMXBean();
    private static final Due due = new Due("RoomTest");

    public static void main(String[] args) throws IllegalAccessException {
        PawnLane[] lanes = new PawnLane[50];
        for (int i = 0; i < lanes.length; i++) {
            lanes[i] = i % 2 == 0 ? Due.lane("s90u11h22w33a44v55 t011t122t233t344t455t501") : new PawnLane();
        }
        parts(lanes[0]);
        parts(lanes[1]);
        // the machine's own making, at the first round of all, is not the class's
        every(Due.lane("s90s11"));
        long before = made();
        long digest = 0;
        for (PawnLane x : lanes) {
            for (int round = 0; round < ROUNDS; round++) {
                digest += every(x);
            }
        }
        long bytes = made() - before;
        due.holds("calls made " + bytes + " bytes (" + digest + ")", bytes < 1000);
        parts(lanes[0]);
        due.end();
    }

    private static long made() {
        return THREADS.getThreadAllocatedBytes(Thread.currentThread().getId());
    }

    /** Walks all that hangs on an object. */
    private static void parts(PawnLane x) throws IllegalAccessException {
        List<Object> parts = new ArrayList<>();
        parts.add(x);
        int fields = 0;
        for (int i = 0; i < parts.size(); i++) {
            Object part = parts.get(i);
            fields += part.getClass().isArray() ? elementsOf(part, parts) : fieldsOf(part, parts);
        }
        due.holds("objects and arrays: " + parts.size(), parts.size() <= MOST_OBJECTS);
        due.holds("fields and elements: " + fields, fields <= MOST_FIELDS);
    }

    private static int elementsOf(Object array, List<Object> parts) {
        int size = Array.getLength(array);
        for (int i = 0; i < size && !array.getClass().getComponentType().isPrimitive(); i++) {
            add(Array.get(array, i), parts);
        }
        return size;
    }

    private static int fieldsOf(Object part, List<Object> parts) throws IllegalAccessException {
        int fields = 0;
        for (Field f : part.getClass().getDeclaredFields()) {
            if (Modifier.isStatic(f.getModifiers())) {
                continue;
            }
            fields++;
            if (!f.getType().isPrimitive()) {
                f.setAccessible(true);
                add(f.get(part), parts);
            }
        }
        return fields;
    }

    private static void add(Object part, List<Object> parts) {
        for (Object known : parts) {
            if (known == part) {
                return;
            }
        }
        if (part != null) {
            parts.add(part);
        }
    }

    private static long every(PawnLane x) {
        x.row(0, 6);
        x.row(1, 3);
        x.lay(0, 1, 2);
        x.at(0, 1);
        x.at(0, 9);
        x.copy(0, 0, 1, 0, 3);
        x.mean(0);
        x.tear(1);
        x.text(0, 60);
        x.put(0, 0, 115);
        x.fault(0);
        x.fault(3);
        x.lane(0);
        x.lane(3);
        for (int s = 0; s < 6; s++) {
            x.stock(s, s);
            x.deep(s);
            x.inside(s);
            x.goods(s);
            x.worth(s);
            x.chalk(s, 6);
            x.free(s, 2);
            x.shuts(s);
            for (int what = 0; what < 7; what++) {
                x.shop(s, what);
                x.mark(s, what);
            }
        }
        x.rings();
        x.hangs();
        x.can();
        x.order(2);
        x.ways();
        x.most();
        x.least();
        x.till();
        x.run(2);
        x.missing(2);
        x.through(1);
        x.odds(5);
        x.redeem(0);
        x.pawn(0, 1, 1);
        x.week();
        x.give(0, 5);
        x.keep(0);
        x.lots(20, 7);
        x.undo(3);
        x.on(0);
        x.findings(x.finding());
        return x.digest() + x.asked() + x.upper() + x.lower() + x.count(8);
    }
}
