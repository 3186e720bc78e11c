import com.sun.management.ThreadMXBean;
import java.lang.management.ManagementFactory;

/** What an object makes in its constructor and in 512 of the dearest calls stays small. */
public final class RoomTest extends Cases {
    // All objects of a run share 7.3 million elements of 4 bytes; this leaves room for a hundred.
    private static final long MOST_OF_CONSTRUCTOR = 64 * 1024;
    private static final long MOST_OF_CALLS = 192 * 1024;
    private static final int CALLS = 512;
    private static final int WORDS = 300;

    private static final ThreadMXBean THREADS = (ThreadMXBean) ManagementFactory.getThreadMXBean();

    public static void main(String[] args) {
        use(new RegisterMill());
        long atFirst = THREADS.getCurrentThreadAllocatedBytes();
        RegisterMill mill = new RegisterMill();
        long made = THREADS.getCurrentThreadAllocatedBytes();
        use(mill);
        long used = THREADS.getCurrentThreadAllocatedBytes();
        due("a constructor makes little: " + (made - atFirst), made - atFirst <= MOST_OF_CONSTRUCTOR, true);
        due("512 calls make little: " + (used - made), used - made <= MOST_OF_CALLS, true);
        finish("RoomTest");
    }

    /** As many WORDS as there can be, most of them CALLS' ARGS, turned again and again: rows must be kept. */
    private static void use(RegisterMill mill) {
        int done = 0;
        mill.func(6, 10);
        for (; done < 12; done++) {
            mill.word(done < 6 ? 1 : 9, done);
        }
        for (; done < WORDS - 1; done++) {
            mill.word(done % 6 == 0 ? 14 : 1, done % 6 == 0 ? 0 : done % 10);
        }
        mill.word(15, 0);
        due("the program has no fault", mill.check(), 0);
        int r = 3;
        for (done += 3; done < CALLS - 2; done += 3) {
            mill.turn(r);
            mill.runStack(1000);
            mill.runRegisters(1000);
            r = r == 16 ? 3 : r + 1;
        }
    }
}
