import java.lang.management.ManagementFactory;

/** All calls of a run live in one room: an object is made with all it needs, and its calls make nothing more. */
public final class RoomTest {
    private static final com.sun.management.ThreadMXBean THREADS =
        (com.sun.management.ThreadMXBean) ManagementFactory.getThreadMXBean();
    private static final char[] TEXT = "40%5,22,35%9-4,18%1-9,8;p7@0,o4@2,g5@1,h8@2,s9".toCharArray();

    private static int sum = 0;

    public static void main(String[] args) {
        long id = Thread.currentThread().getId();
        calls(new NoonSaws());
        THREADS.getThreadAllocatedBytes(id);
        long before = THREADS.getThreadAllocatedBytes(id);
        NoonSaws x = new NoonSaws();
        long made = THREADS.getThreadAllocatedBytes(id);
        calls(x);
        long after = THREADS.getThreadAllocatedBytes(id);
        Check.due("a new object takes more than 20000 bytes: " + (made - before), made - before > 20000 ? 1 : 0, 0);
        // The measuring itself may take a few.
        Check.due("bytes that the calls made: " + (after - made) + " (" + sum + ")", after - made > 100 ? 1 : 0, 0);
        Check.end();
    }

    private static void calls(NoonSaws x) {
        for (char c : TEXT) sum += x.type(c);
        sum += x.read() + x.plank(9, 9) + x.sawyer(1, 1) + x.of(0, 4) + x.at(0, 3);
        for (int round = 0; round < 9; round++) {
            for (int what = 0; what < 8; what++) sum += x.count(what);
            sum += x.set(4, round % 5) + x.sharpen(1, 1) + x.soak(0, 3) + x.drift(3) + x.hours(1) + x.undo() + x.seed(round);
            sum += x.left(0, 60) + x.ahead(0, 60, 0) + x.then(60) + x.falls(0) + x.noon() + x.best(-1) + x.most(9, 2);
            sum += x.sharp(9, 0) + x.without(0) + x.thickest(0, 20) + x.hops(0, 3, 0) + x.image() + x.restore();
            sum += x.sheet(0, round % 4, 24) + x.sheet(1, round % 4, 9) + x.film(0, 24, 0, round % 4, 0);
            sum += x.dust(0, 0, 0, round % 4, 0, 8, round % 3) + x.copy(0, 0, 1, 0, 9) + x.item(0, round % 4, 3, 7L);
            sum += x.drop(0);
        }
    }
}
