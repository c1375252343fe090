import java.lang.management.ManagementFactory;

/** No call makes an object once the box is made: the room that all calls of a run share does not fill up. */
public final class RoomTest {
    private static final com.sun.management.ThreadMXBean THREADS =
        (com.sun.management.ThreadMXBean) ManagementFactory.getThreadMXBean();

    public static void main(String[] args) {
        Due due = new Due();
        due.at("room");
        // The first round loads what the calls need.
        calls();
        long made = calls();
        due.holds("bytes made by all calls: " + made, made < 4096);
        due.end();
    }

    private static long bytes() {
        return THREADS.getThreadAllocatedBytes(Thread.currentThread().getId());
    }

    private static long calls() {
        FuseBox x = new FuseBox();
        String text = "m40;w6;s5;q7;c4;t0,8,1;t1,9,1;t2,5,1;t2,12,1;t3,6,1;t0,2,1;";
        long before = bytes();
        for (int round = 0; round < 3; round++) {
            for (int i = 0; i < text.length(); i++) {
                x.feed(text.charAt(i));
            }
            x.house();
            x.row(0, 0, 40);
            x.set(0, 1, 7);
            x.copy(0, 0, 0, 1, 39);
            for (int l = -1; l < 5; l++) {
                lines(x, l);
            }
            for (int t = -1; t < 7; t++) {
                things(x, t);
            }
            x.minutes(24);
            x.mains();
            x.image(0);
            x.undo();
            x.restore(0);
            x.later(60, 2);
            x.dark();
            x.drawn(60, 5, 0);
            x.trace(0);
            x.count(0);
            x.status();
            x.fault();
            x.drop(0);
        }
        return bytes() - before;
    }

    private static void lines(FuseBox x, int l) {
        x.line(l, 4);
        x.heat(l, 60);
        x.lost(l);
        x.holds(l, 30);
        x.faulty(l, 30);
        x.chance(l, 60, 5, 0);
        x.kind(l);
        x.as(l, 1);
        x.ask(l, 0);
        x.ask(l, 1);
        x.rate(l, 5);
        x.mend(l);
        for (int what = 0; what < 5; what++) {
            x.fits(l, 0, 0, 12, what);
        }
    }

    private static void things(FuseBox x, int t) {
        x.thing(t, 3);
        x.turn(t, 0);
        x.turn(t, 1);
        x.plug(t, 3);
        x.shed(t, 30, 1);
        x.plugs(12, t);
        x.bill(t, 999);
    }
}
