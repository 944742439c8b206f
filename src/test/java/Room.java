import java.lang.management.ManagementFactory;
import java.lang.reflect.Array;
import java.lang.reflect.Field;
import java.lang.reflect.Modifier;
import java.util.Collections;
import java.util.IdentityHashMap;
import java.util.Set;

/** The dearest calls: 512 on one object take little of the room that all calls of a run share. */
public final class Room {
    // 7.3 million fields and elements, of four bytes at least; a tenth of it is plenty.
    private static final long MOST_BYTES = 7300000L * 4 / 10;
    private static final long MOST_OBJECTS = 600000;
    private static final long MOST_PARTS = 7300000;
    private static final Check CHECK = new Check();
    private static final Set<Object> SEEN = Collections.newSetFromMap(new IdentityHashMap<>());
    private static long parts = 0;

    public static void main(String[] args) throws IllegalAccessException {
        // Once unmeasured: what the machine itself makes at first is not the program's.
        makeAndCall();
        long before = allocated();
        makeAndCall();
        long taken = allocated() - before;
        CHECK.due("512 calls take " + taken + " bytes, which is little", taken < MOST_BYTES, true);
        count(new WalledIn());
        CHECK.due("512 new objects are " + 512 * SEEN.size() + " objects and arrays",
            512 * SEEN.size() < MOST_OBJECTS, true);
        CHECK.due("512 new objects have " + 512 * parts + " fields and elements",
            512 * parts < MOST_PARTS, true);
        CHECK.endWith("room");
    }

    /** Counts an object with all that it holds: the objects in SEEN, their fields in parts. */
    private static void count(Object what) throws IllegalAccessException {
        if (what == null || !SEEN.add(what)) {
            return;
        }
        if (what.getClass().isArray()) {
            parts += Array.getLength(what);
            if (what instanceof Object[] row) {
                for (Object each : row) {
                    count(each);
                }
            }
            return;
        }
        for (Field field : what.getClass().getDeclaredFields()) {
            if (!Modifier.isStatic(field.getModifiers())) {
                parts++;
                if (!field.getType().isPrimitive()) {
                    field.setAccessible(true);
                    count(field.get(what));
                }
            }
        }
    }

    private static long allocated() {
        return ((com.sun.management.ThreadMXBean) ManagementFactory.getThreadMXBean())
            .getThreadAllocatedBytes(Thread.currentThread().getId());
    }

    private static void makeAndCall() {
        WalledIn x = new WalledIn();
        for (int i = 0; i < 12; i++) {
            x.stone(9, i, 5, 0, 0);
        }
        for (int i = 0; i < 10; i++) {
            x.house(9);
        }
        for (int i = 0; i < 9; i++) {
            x.touch(i, i + 1, true);
        }
        x.image();
        for (int i = 0; i < 15; i++) {
            int text = readLongest(x);
            x.by(text);
            x.orders();
            x.least(3);
            x.heard(0);
            x.sound(0, 20);
            x.town(i, 99);
            x.winter();
            x.row(0, 9, 5);
            x.lay(i % 12);
            x.with(i % 12);
            x.back();
        }
    }

    private static int readLongest(WalledIn x) {
        StringBuilder text = new StringBuilder("lift 1");
        for (int i = 0; i < 65; i++) {
            text.append("+1");
        }
        text.append(";may 1<2");
        for (int i = 0; i < 20; i++) {
            text.append(" or 1<2");
        }
        Check.feed(x, text.append(';').toString());
        return x.text();
    }
}
