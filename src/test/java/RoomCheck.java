import com.sun.management.ThreadMXBean;
import java.lang.management.ManagementFactory;

/** No call makes anything: all rows are made with the object, and they are few. */
public final class RoomCheck {
    private static final ThreadMXBean THREADS = (ThreadMXBean) ManagementFactory.getThreadMXBean();
    private static final long MOST_BYTES_OF_OBJECT = 600_000;
    private static final long MOST_BYTES_OF_CALLS = 20_000;

    private static long sum = 0;

    private RoomCheck() {
    }

    public static void main(String[] args) {
        // Once ahead, so that what the machine loads for itself does not count.
        run(new KeptParts(0));
        long start = allocated();
        KeptParts x = new KeptParts(0);
        long made = allocated();
        run(x);
        long ended = allocated();
        check("a new object", made - start, MOST_BYTES_OF_OBJECT);
        check("512 calls", ended - made, MOST_BYTES_OF_CALLS);
        System.out.println("room: object " + (made - start) + " bytes, calls " + (ended - made) + " bytes, sum " + sum);
    }

    private static long allocated() {
        return THREADS.getCurrentThreadAllocatedBytes();
    }

    private static void check(String what, long bytes, long most) {
        if (bytes > most) {
            System.out.println(what + " took " + bytes + " bytes, at most " + most + " are due");
            System.exit(1);
        }
    }

    /** A full house, every kind of call in it, 512 in all. */
    private static void run(KeptParts x) {
        int calls = 1;
        sum += x.chain(300);
        for (int i = 0; i < 200; i++, calls++) {
            sum += x.put((i * 37 + 11) % 300, (i * 91 + 5) % 300);
        }
        for (int i = 0; i < 55; i++) {
            sum += x.planPut(i, 299 - i) + x.later(i, i % 4) + (x.laterJoined(i, 3, i) ? 1 : 0);
            calls += 3;
        }
        for (int i = 0; i < 5; i++, calls++) {
            sum += x.planTake(i);
        }
        for (int i = 0; i < 13; i++, calls++) {
            sum += x.told(i);
        }
        for (int i = 0; i < 9; i++, calls++) {
            sum += x.of(250, i);
        }
        for (int i = 0; i < 20; i++) {
            sum += x.take(i * 14) + x.weigh(i, i) + (x.two(i, 299) ? 1 : 0) + x.arc(300, i % 7);
            calls += 4;
        }
        for (; calls < 507; calls++) {
            sum += x.order(calls % 300) + x.ring(0);
            calls++;
        }
        sum += x.triangles() + x.drop() + x.odd(0, 2) + (x.sound() ? 1 : 0);
        x.clear();
    }
}
