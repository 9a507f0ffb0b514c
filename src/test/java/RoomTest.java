import java.lang.management.ManagementFactory;

/** What calls make is counted over all of a run, so they make nothing; a new object stays small. */
public final class RoomTest {
    private static final com.sun.management.ThreadMXBean THREADS =
            (com.sun.management.ThreadMXBean) ManagementFactory.getThreadMXBean();

    public static void main(String[] args) {
        StairNews warm = new StairNews();
        useAll(warm);
        useAll(warm);
        long before = made();
        StairNews x = new StairNews();
        long ofNew = made() - before;
        Due.is("a new object takes " + ofNew + " bytes, at most 100000", ofNew <= 100000, true);
        useAll(x);
        before = made();
        useAll(x);
        long ofCalls = made() - before;
        Due.is("calls make " + ofCalls + " bytes, none but what counting them makes", ofCalls <= 1000, true);
        Due.finish();
    }

    private static long made() {
        return THREADS.getThreadAllocatedBytes(Thread.currentThread().getId());
    }

    private static void tape(StairNews x, String text) {
        x.end(0);
        for (int i = 0; i < text.length(); i += 20) {
            x.feed(Due.four(text, i), Due.four(text, i + 4), Due.four(text, i + 8), Due.four(text, i + 12),
                    Due.four(text, i + 16));
        }
        x.end(text.length());
    }

    private static void useAll(StairNews x) {
        tape(x, "house 4;person 0 1;person 1 1;person 3 1;person 0 2;errand 0 1 2;errand 0 3 5;adds 0 2;bucket 3 0");
        x.house();
        tape(x, "tell 1 if [not bell < 2 or since >= 0] and chairs + 2 * twist > 0 - 9;tell 0");
        x.rule();
        x.force(0);
        x.whisper(0, 3);
        x.send(1, 2);
        x.plant(2);
        x.heel(1);
        for (int i = 0; i < 30; i++) {
            x.bell();
            x.undo();
            x.bell();
        }
        x.image(0);
        x.back(0);
        x.news(0, 0);
        x.seed(7);
        for (int what = 0; what < 13; what++) {
            x.count(what);
            x.person(0, what);
            x.knows(0, what);
            x.floor(0, what);
        }
        for (int i = 0; i < 10; i++) {
            x.ahead(100);
            x.where(0, 100);
            x.hears(2);
            x.whom(3, 60, 1, 0);
            x.starts(0);
            x.look(0);
            x.block(60, 0);
            x.silence(2, 60, 0);
            x.meeting(0);
            x.cost(0);
            x.evenings(10, 60, 1);
        }
    }
}
