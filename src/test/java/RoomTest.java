import com.sun.management.ThreadMXBean;
import java.lang.management.ManagementFactory;

/**
 * All calls of one run live in one room of some 7.3 million fields and elements: what some of the
 * dearest calls of an act make stays below their part of it, and so does what objects hold.
 */
public final class RoomTest {
    /** Twice as many, and those that make the object, are no more than the 512 calls of an object. */
    private static final int CALLS = 200;
    private static final long ROOM = 7_300_000L * 4 * CALLS / 512;
    private static final Due due = new Due("RoomTest");
    private static final ThreadMXBean BEAN = (ThreadMXBean) ManagementFactory.getThreadMXBean();

    private static long madeBy(Runnable act) {
        long ahead = BEAN.getThreadAllocatedBytes(Thread.currentThread().getId());
        act.run();
        return BEAN.getThreadAllocatedBytes(Thread.currentThread().getId()) - ahead;
    }

    private static void dueWithin(String what, Runnable act) {
        // The first time what the machine makes for itself is counted, too.
        act.run();
        long made = madeBy(act);
        due.due(what + " made " + made + " bytes", made < ROOM ? 1 : 0, 1);
    }

    private static void dueOften(String what, Scene.Act act) {
        CatchBars x = dear();
        dueWithin(CALLS + " times " + what, () -> {
            for (int i = 0; i < CALLS; i++) {
                act.on(x);
            }
        });
    }

    /** Whoever is asked is never CAUGHT, and laws are long. */
    private static CatchBars dear() {
        CatchBars x = Scene.rich();
        x.set(0, 200);
        x.set(1, 0);
        Due.text(x, 0, "k+m*2+4-v*v+k*k+(1+(2+(3+(4+(5+m)))))|0&1+1+1+1");
        Due.text(x, 1, "k+m*2+4-v*v+k*k+(1+(2+(3+(4+(5+m)))))-1-1-1-1-99");
        x.swing(1, 0, 40);
        x.swing(1, 1, 1);
        x.swing(0, 1, 1);
        return x;
    }

    public static void main(String[] args) {
        dueWithin("100 objects", () -> {
            for (int i = 0; i < 100; i++) {
                new CatchBars();
            }
        });
        dueOften("can", x -> x.can(4, 60, 1));
        dueOften("surest", x -> x.surest(4, 60));
        dueOften("pumped", x -> x.pumped(4, 60));
        dueOften("inStep", x -> x.inStep(4, 60));
        dueOften("again", x -> x.again(4, 60, 9, 9, 0));
        dueOften("net", x -> x.net(5, 60, 1));
        dueOften("phases", x -> x.phases(4, 2, 1));
        dueOften("late", x -> x.late(4, 2));
        dueOften("voice", x -> x.voice(5, 3, 7));
        dueOften("image", CatchBars::image);
        dueOften("restore", CatchBars::restore);
        dueOften("evenings", x -> x.evenings(1));
        dueOften("go", x -> x.go(3));
        dueOften("sheet", x -> x.sheet(1, 32, 40));
        dueOften("move", x -> x.move(2, 0, 2, 1, 39));
        dueOften("text", x -> x.feed(0x2b312b312b312b31L, 8) + x.text(0));
        dueOften("law", x -> x.law(0, 1, 2, 3));
        due.end();
    }
}
