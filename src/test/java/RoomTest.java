import com.sun.management.ThreadMXBean;
import java.lang.management.ManagementFactory;

/** A run of an object's 512 dearest calls makes next to nothing beside what the constructor makes. */
public final class RoomTest {
    private static final long MOST_BYTES = 100000;

    public static void main(String[] args) {
        Due due = new Due("room");
        ThreadMXBean bean = (ThreadMXBean) ManagementFactory.getThreadMXBean();
        long id = Thread.currentThread().getId();
        run();
        long before = bean.getThreadAllocatedBytes(id);
        int sum = run();
        long made = bean.getThreadAllocatedBytes(id) - before;
        System.out.println("room: a run of 512 calls makes " + made + " bytes");
        due.same("little is made", made < MOST_BYTES, true);
        due.same("and something is answered", sum > 0, true);
        due.end();
    }

    /** The same sum each time; what throws is left out, since its exceptions would be counted. */
    private static int run() {
        FuseKinds x = new FuseKinds();
        int sum = 0;
        for (int n = 0; n < 30; n++) {
            sum += x.list(4, 1 + n % 2);
            sum += x.take(n % 2);
            x.field(n % 2 == 0 ? 29 : 31);
            x.image();
            for (int c = 0; c < 4; c++) {
                if (c < x.character(-1, 0)) {
                    sum += x.turned(c, -1, 0);
                }
            }
            sum += x.make(2, 1, 1);
            x.field(n % 2 == 0 ? 11 : 13);
            sum += x.solve(-1);
            x.restore();
            sum += x.size(1);
        }
        return sum;
    }
}
