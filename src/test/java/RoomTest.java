import java.lang.management.ManagementFactory;

/** Calls make no objects: rows are made with the object and used again. */
public final class RoomTest {
    private static final com.sun.management.ThreadMXBean BEAN =
            (com.sun.management.ThreadMXBean) ManagementFactory.getThreadMXBean();

    public static void main(String[] args) {
        // Once before it is measured, so that what the machine makes for itself is made already.
        calls(Check.built(STORY));
        measure("an object", 120_000, () -> new BranchingStory());
        BranchingStory s = Check.built(STORY);
        measure("the dearest calls", 4_000, () -> calls(s));
        Check.end();
    }

    /** A story with far more than 300 waiting states and long flows. */
    private static final String STORY = "=A#?x<9{x+1}[1]{y+1>B}[2]{y-1}[3?a]{+b-a}=B?z<9{z+1>B}{z=0}"
            + "[4]{+a>A}[5]{+b<}[6]{+c>A}[7]{+d>A}[8]{+e-a>A}[9]{+f}[10]{x=0}[11]{x-3}";

    private static void calls(BranchingStory s) {
        for (int i = 0; i < 25; i++) {
            s.explore(300);
            s.analyze();
            s.fault();
            s.build();
            s.start();
            s.choose(0);
            s.choose(0);
            s.back();
            s.explore(1);
            s.wayLength(11);
        }
    }

    private static void measure(String what, long most, Runnable action) {
        long thread = Thread.currentThread().getId();
        long before = BEAN.getThreadAllocatedBytes(thread);
        action.run();
        long made = BEAN.getThreadAllocatedBytes(thread) - before;
        System.out.println(what + ": " + made + " bytes");
        Check.isTrue(what + " makes at most " + most + " bytes, made " + made, () -> made <= most);
    }
}
