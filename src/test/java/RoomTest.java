import com.sun.management.ThreadMXBean;
import java.lang.management.ManagementFactory;

/** LANGUAGE rule 12: what one object and the calls of a run make stays far below the room that they share. */
public final class RoomTest {
    /** 7.3 million fields and elements at the least of 4 bytes each, and of these a half. */
    private static final long ROOM = 7300000L * 4 / 2;
    private static final ThreadMXBean THREADS = (ThreadMXBean) ManagementFactory.getThreadMXBean();

    private static long made() {
        return THREADS.getThreadAllocatedBytes(Thread.currentThread().getId());
    }

    /** So many calls on a full object as an object is used for, besides those that fill it. */
    private static void run(String what, int calls, Edge.Asked call) {
        int[] number = new int[1];
        call.on(States.FULL.get(), number);
        long before = made();
        DiceLaw x = States.FULL.get();
        for (int i = 0; i < calls; i++) {
            number[0] = i;
            call.on(x, number);
        }
        long made = made() - before;
        Due.is(what + " makes " + made + " bytes, which is too much", made < ROOM, true);
    }

    public static void main(String[] args) {
        run("feed", 340, (x, v) -> x.feed(0, 0, 0, 0, 0));
        run("fault", 340, (x, v) -> x.fault(v[0] % 2));
        run("clause", 340, (x, v) -> x.clause(v[0] % 5, v[0] % 6));
        run("dawn and undo", 170, (x, v) -> x.undo() + x.dawn());
        run("told and undo", 170, (x, v) -> x.undo() + x.told(v[0]));
        run("held", 340, (x, v) -> x.held(v[0] % 5, v[0] % 40));
        run("deed", 340, (x, v) -> x.deed(v[0] % 6, v[0] % 40, v[0] % 5));
        run("odds", 340, (x, v) -> x.odds(v[0] % 6, v[0] % 3, v[0] % 2));
        run("holds", 340, (x, v) -> x.holds(v[0] % 5, 10 + v[0] % 6, v[0] % 2));
        run("sure", 340, (x, v) -> x.sure(v[0] % 2));
        run("value", 340, (x, v) -> x.value(v[0] % 6, 60, 999, 99));
        run("suit", 340, (x, v) -> x.suit(v[0] % 6, -1));
        run("named", 340, (x, v) -> x.named(v[0] % 5, 15, 1000));
        run("amended", 340, (x, v) -> x.amended(v[0] % 5, v[0] % 6, 44, v[0] % 6));
        run("help", 340, (x, v) -> x.help(v[0] % 6, 1));
        run("follow", 340, (x, v) -> x.follow(v[0] % 4, v[0] % 6, v[0] % 3));
        run("given", 340, (x, v) -> x.given(v[0] % 5, v[0] % 6, v[0] % 6, 0));
        run("harm", 340, (x, v) -> x.harm(v[0] % 6));
        run("likeliest", 340, (x, v) -> x.likeliest(v[0] % 2));
        run("change", 340, (x, v) -> x.change(v[0] % 5, 1, 2, v[0] % 6));
        run("image and back", 170, (x, v) -> x.image() + x.back());
        Due.close("RoomTest");
    }
}
