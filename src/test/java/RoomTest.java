import com.sun.management.ThreadMXBean;
import java.lang.management.ManagementFactory;

/** All calls of a run live in one room: an object is small, and its calls make nothing new. */
public final class RoomTest {
    private static final Check check = new Check();
    private static final ThreadMXBean THREADS = (ThreadMXBean) ManagementFactory.getThreadMXBean();

    public static void main(String[] args) throws IllegalAccessException {
        BallDesk first = new BallDesk(192);
        work(first);
        long start = made();
        BallDesk desk = new BallDesk(192);
        long built = made();
        work(desk);
        long worked = made();
        check.due("bytes of an object, " + (built - start) + ", at most 20000", built - start <= 20000 ? 1 : 0, 1);
        check.due("bytes that 500 calls make, " + (worked - built) + ", at most 1000", worked - built <= 1000 ? 1 : 0, 1);
        Room room = new Room(desk);
        check.due("objects and arrays, " + room.objects() + ", at most 120", room.objects() <= 120 ? 1 : 0, 1);
        check.due("fields and elements, " + room.elements() + ", at most 1500", room.elements() <= 1500 ? 1 : 0, 1);
        check.end("RoomTest");
    }

    private static long made() {
        return THREADS.getThreadAllocatedBytes(Thread.currentThread().getId());
    }

    private static void work(BallDesk desk) {
        for (int n = 0; n < 25; n++) {
            desk.set(0, 7 + n, 3);
            desk.set(1, -5, 7 + n);
            desk.add(2, 0, 1);
            desk.take(3, 0, 1);
            desk.times(4, 0, 1);
            desk.over(5, 0, 1);
            desk.root(6, 0);
            desk.exp(7, 1);
            desk.log(8, 0);
            desk.arc(9, n % 2);
            desk.sine(10, 0, true);
            desk.pi(11);
            desk.widen(11, 9);
            desk.join(11, 10, 11);
            desk.lies(1, 2);
            desk.holds(0, 7, 3);
            desk.limb(3, 2, 1);
            desk.digit(4, 60);
            desk.sure(5);
            desk.count(1);
        }
    }
}
