import com.sun.management.ThreadMXBean;
import java.lang.management.ManagementFactory;

/** All calls of one run live in one room: an object is small, and no call makes anything. */
public final class RoomTest {
    private static final Due due = new Due();
    private static final ThreadMXBean THREADS = (ThreadMXBean) ManagementFactory.getThreadMXBean();
    private static final String FULL_STATE = "30-9,22,14-1,41,9;b12:0@1,r7:1@1,f9:2@0,p5:3@4,m18:0@0,p3:2@1";

    public static void main(String[] args) {
        due.part("the room");
        allCalls(Due.of(FULL_STATE));
        anObject();
        WoundMedals x = Due.of(FULL_STATE);
        long before = bytes();
        for (int i = 0; i < 50; i++) {
            allCalls(x);
        }
        long made = bytes() - before;
        due.isTrue("2000 calls made " + made + " bytes", made < 20_000);
        due.end();
    }

    private static long bytes() {
        return THREADS.getThreadAllocatedBytes(Thread.currentThread().getId());
    }

    private static void anObject() {
        long before = bytes();
        WoundMedals x = new WoundMedals();
        long made = bytes() - before;
        due.isTrue("a new object has " + made + " bytes", made < 20_000 && x.count(0) == 0);
    }

    private static void allCalls(WoundMedals x) {
        x.image();
        x.man(5);
        x.medal(0, 1, 0);
        for (int what = 0; what < 8; what++) {
            x.of(0, what);
            x.at(0, what);
            x.count(what);
        }
        x.days(40);
        x.hang(0, 2);
        x.polish(0, 1);
        x.drift(40);
        x.undo();
        x.seed(4);
        x.ahead(1, 60, 0);
        x.then(60);
        x.done(1);
        x.ever();
        x.even(3);
        x.few(3);
        x.off(40, 0);
        x.needs(1, 40);
        x.two(0);
        x.error(-1, 0);
        x.error(1, 1);
        x.sheet(1, 2, 24);
        x.film(1, 24, 1, 2, 0);
        x.felt(1, 0, 1, 2, 0, 8, 1);
        x.item(1, 2, 3, 4);
        x.copy(1, 0, 1, 4, 9);
        x.drop(1);
        x.restore();
        x.type('9');
        x.type('x');
        x.state();
    }
}
