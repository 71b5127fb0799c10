import com.sun.management.ThreadMXBean;
import java.lang.management.ManagementFactory;

/** All calls of one run live in one room: an object and 512 of its dearest calls make but little. */
public final class RoomTest {
    private static final int CALLS = 400;
    /** The room has some 7.3 million fields and elements, of up to eight bytes each. */
    private static final long MOST = 8_000_000;

    public static void main(String[] args) {
        Check.promise("LANGUAGE.md 12");
        ThreadMXBean threads = (ThreadMXBean) ManagementFactory.getThreadMXBean();
        long thread = Thread.currentThread().getId();
        long answers = 0;
        long before = threads.getThreadAllocatedBytes(thread);
        StrikeDays x = largest();
        for (int i = 0; i < CALLS; i++) {
            answers += dear(x, i % 10);
        }
        long made = threads.getThreadAllocatedBytes(thread) - before;
        Check.due("a run that makes " + made + " bytes and answers " + answers, made <= MOST ? 1 : 0, 1);
        Check.close();
    }

    private static StrikeDays largest() {
        StrikeDays x = new StrikeDays();
        x.text(0, 0);
        x.way(0, 1);
        x.way(1, 2);
        for (int k = 0; k < 6; k++) {
            x.men(k, 99, 99, 100);
        }
        x.row(0, 40);
        return x;
    }

    private static long dear(StrikeDays x, int which) {
        switch (which) {
            case 0: return x.rest(0, 1);
            case 1: return x.answer(0, 1);
            case 2: return x.reply(1, 0);
            case 3: return x.law(0, 1);
            case 4: return x.turns(98);
            case 5: return x.gone(99, 0, 0);
            case 6: return x.digest();
            case 7: return x.text(0, 60) + x.fault(0);
            case 8: return x.worth(0, 1, 0, 0);
            default: return x.row(0, 40) + x.copy(0, 0, 0, 1, 39);
        }
    }
}
