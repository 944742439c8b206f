import java.lang.management.ManagementFactory;

/** The dearest calls: 512 on one object take little of the room that all calls of a run share. */
public final class Room {
    // 7.3 million fields and elements, of four bytes at least; a tenth of it is plenty.
    private static final long MOST_BYTES = 7300000L * 4 / 10;
    private static final Check CHECK = new Check();

    public static void main(String[] args) {
        // Once unmeasured: what the machine itself makes at first is not the program's.
        makeAndCall();
        long before = allocated();
        makeAndCall();
        long taken = allocated() - before;
        CHECK.due("512 calls take " + taken + " bytes, which is little", taken < MOST_BYTES, true);
        before = allocated();
        new WalledIn();
        taken = allocated() - before;
        CHECK.due("a new object takes " + taken + " bytes, little", taken < MOST_BYTES / 20, true);
        CHECK.endWith("room");
    }

    private static long allocated() {
        return ((com.sun.management.ThreadMXBean) ManagementFactory.getThreadMXBean())
            .getThreadAllocatedBytes(Thread.currentThread().getId());
    }

    private static void makeAndCall() {
        WalledIn x = new WalledIn();
        for (int i = 0; i < 12; i++) {
            x.stone(9, i, 5, 0, 0);
        }
        for (int i = 0; i < 10; i++) {
            x.house(9);
        }
        for (int i = 0; i < 9; i++) {
            x.touch(i, i + 1, true);
        }
        x.image();
        for (int i = 0; i < 15; i++) {
            int text = readLongest(x);
            x.by(text);
            x.orders();
            x.least(3);
            x.heard(0);
            x.sound(0, 20);
            x.town(i, 99);
            x.winter();
            x.row(0, 9, 5);
            x.lay(i % 12);
            x.with(i % 12);
            x.back();
        }
    }

    private static int readLongest(WalledIn x) {
        StringBuilder text = new StringBuilder("lift 1");
        for (int i = 0; i < 65; i++) {
            text.append("+1");
        }
        text.append(";may 1<2");
        for (int i = 0; i < 20; i++) {
            text.append(" or 1<2");
        }
        Check.feed(x, text.append(';').toString());
        return x.text();
    }
}
