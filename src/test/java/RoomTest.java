import com.sun.management.ThreadMXBean;
import java.lang.management.ManagementFactory;

/** What a house and its calls make on the heap: all calls of a run live in one room, so a call makes nothing. */
public final class RoomTest {
    private static final Due D = Due.begin();
    private static final ThreadMXBean MEMORY = (ThreadMXBean) ManagementFactory.getThreadMXBean();
    private static final int CALLS = 512;
    private static final long FREE = 16 * 1024;
    private static final String TOLD = "guest 9 8 7;widow 50 40;general 30 20 10;child 90;saint 80;guest 44;widow 22 21 20"
        + ";pair 0 1;pair 1 2;pair 2 0;pair 3 4;pair 5 6";

    public static void main(String[] args) {
        GriefDoors x = Due.houseOf(TOLD);
        x.seen(1, 1, 1);
        everyCall(x);
        long before = made();
        for (int k = 0; k < CALLS; k++) {
            everyCall(x);
        }
        long calls = made() - before;
        D.isSo("512 of each call made " + calls + " bytes", calls < FREE);
        before = made();
        GriefDoors one = new GriefDoors();
        long house = made() - before;
        D.isSo("a house takes " + house + " bytes", house < FREE && one.count(0) == 0);
        D.end("RoomTest");
    }

    private static long made() {
        return MEMORY.getThreadAllocatedBytes(Thread.currentThread().getId());
    }

    private static void everyCall(GriefDoors x) {
        told(x);
        done(x);
        foretold(x);
        drawers(x);
    }

    private static void told(GriefDoors x) {
        for (int k = 0; k < TOLD.length(); k++) {
            x.write(TOLD.charAt(k));
        }
        x.fault();
        x.house();
        x.erase();
        x.write('h');
        x.write('o');
        x.write('u');
        x.write('s');
        x.write('e');
        x.write(';');
        for (int k = 0; k < TOLD.length(); k++) {
            x.write(TOLD.charAt(k));
        }
        x.house();
        for (int one = 0; one < 7; one++) {
            x.person(one, 4);
            x.grief(one, 0);
            x.as(one, 0);
        }
    }

    private static void done(GriefDoors x) {
        x.lent(1);
        x.grieve(3, 5);
        x.comfort(0);
        x.keep(0);
        x.undo();
        x.back(0);
    }

    private static void foretold(GriefDoors x) {
        x.behind(1, 60, 1);
        x.enters(3, 60);
        x.ahead(0, 1);
        x.wrong();
        x.ranked(-1);
        x.lines();
        x.next();
        x.rooms(120, 6);
        x.misread(0, 1, 3, 1);
        x.forget();
        x.seen(0, 3, 4);
        x.kinds(0, 0);
        x.kinds(0, 1);
        x.unpair();
        x.pair(0, 1);
        x.next();
    }

    private static void drawers(GriefDoors x) {
        x.drawer(0, 10);
        x.drawer(1, 10);
        for (int i = 0; i < 10; i++) {
            x.put(0, i, 2, i % 7);
            x.put(1, i, 0, -i);
            x.take(0, i, 2);
        }
        x.tidy(0);
        x.tidy(1);
        x.copy(0, 0, 1, 1, 9);
        for (int what = 0; what < 10; what++) {
            x.count(what);
        }
        x.drop(1);
    }
}
