import com.sun.management.ThreadMXBean;
import java.lang.management.ManagementFactory;

/** What a run makes: the constructor a little, the calls nothing, so that long runs of dear calls keep to the room. */
public final class RoomTest {
    // of 7.3 million fields and elements a new object may have this many bytes, whatever their type
    private static final long BYTES_OF_ONE = 16_000;
    private static final int OBJECTS = 64;

    private RoomTest() {
    }

    public static void main(String[] args) {
        Due due = new Due("RoomTest");
        ThreadMXBean threads = (ThreadMXBean) ManagementFactory.getThreadMXBean();
        long self = Thread.currentThread().getId();
        dearCalls(new EdgeStencil());
        threads.getThreadAllocatedBytes(self);
        EdgeStencil[] made = new EdgeStencil[OBJECTS];
        long start = threads.getThreadAllocatedBytes(self);
        for (int i = 0; i < OBJECTS; i++) {
            made[i] = new EdgeStencil();
        }
        long built = threads.getThreadAllocatedBytes(self);
        for (int i = 0; i < OBJECTS; i++) {
            dearCalls(made[i]);
        }
        long called = threads.getThreadAllocatedBytes(self);
        System.out.println("RoomTest: " + (built - start) / OBJECTS + " bytes an object, "
                + (called - built) / OBJECTS + " bytes a run of 512 calls");
        due.holds("an object is small", (built - start) / OBJECTS <= BYTES_OF_ONE);
        due.holds("calls make nothing", (called - built) / OBJECTS <= 64);
        due.end();
    }

    private static void dearCalls(EdgeStencil e) {
        for (int call = 0; call < 512; call++) {
            int cell = call / 7;
            switch (call % 7) {
                case 0:
                    e.edge(cell % 10, cell / 10, 1 - e.cell(cell % 10, cell / 10));
                    break;
                case 1:
                    e.takes(1, 990);
                    break;
                case 2:
                    e.undo();
                    break;
                case 3:
                    e.spread(2, 9, 5);
                    break;
                case 4:
                    e.bound(0, 0, 11);
                    break;
                case 5:
                    e.measure(call % 3, 1 + call % 99);
                    break;
                default:
                    e.write('g');
                    e.fault();
                    e.lay();
                    break;
            }
        }
    }
}
