import com.sun.management.ThreadMXBean;
import java.lang.management.ManagementFactory;

/** A run's objects stay few: the dearest calls, 512 at a time, make little beside what they keep. */
public final class RoomTest {
    private static final ThreadMXBean BEAN = (ThreadMXBean) ManagementFactory.getThreadMXBean();
    private static final Due due = new Due();
    private static final String LAW = "read let if source+third>=1 and " + "not ".repeat(9) + "lines=1; turn 1"
        + "+waits".repeat(40);

    private interface Run {
        void call(FilesOpened x, int i);
    }

    public static void main(String[] args) {
        FilesOpened full = filled();
        long nine = Due.packed(5, 8, 7, 6, 5, 4, 3, 2, 1, 0);
        check("new objects", 64000, (x, i) -> new FilesOpened());
        check("sheets", 300000 / 512, (x, i) -> x.sheet());
        check("may", 0, (x, i) -> full.may(i % 30, i % 150, 0));
        check("call", 0, (x, i) -> {
            full.ask(i % 30, i % 150);
            full.call();
        });
        check("account", 0, (x, i) -> full.account(i % 10, i % 3));
        check("next", 0, (x, i) -> full.next(i % 40));
        check("together", 0, (x, i) -> full.together(i % 30, i % 40, i % 150));
        check("stands", 0, (x, i) -> full.stands(i % 60, 5));
        check("lay", 0, (x, i) -> full.lay(0, 4, 2));
        check("order", 0, (x, i) -> {
            full.asker(511, 99);
            full.order(9, nine);
        });
        check("laws with faults", 0, (x, i) -> {
            full.feed(0x7475726e, 0x20282828, 0x28282828, 0x28282828, 0x28282828);
            full.law(0);
        });
        due.end();
    }

    /** Runs once to have all loaded, then counts the bytes that a call makes on the average. */
    private static void check(String name, long most, Run run) {
        long least = Long.MAX_VALUE;
        for (int round = 0; round < 5; round++) {
            FilesOpened x = new FilesOpened();
            long before = BEAN.getThreadAllocatedBytes(Thread.currentThread().getId());
            for (int i = 0; i < 512; i++) {
                run.call(x, i);
            }
            least = Math.min(least, (BEAN.getThreadAllocatedBytes(Thread.currentThread().getId()) - before) / 512);
        }
        due.yes(name + " makes " + least + " bytes a call, at most " + most, least <= most + 8);
    }

    /** It takes more than 512 calls to fill a house so far; what it answers then is free, but not what it makes. */
    private static FilesOpened filled() {
        FilesOpened x = new FilesOpened();
        due.is("law", Due.law(x, LAW), 0);
        for (int i = 0; i < 20; i++) {
            x.sack(i + 1);
        }
        for (int i = 0; i < 8; i++) {
            x.scrap(0, 0, Due.edges(3, -3, -3, 3));
        }
        for (int i = 0; i < 60; i++) {
            x.person(i);
            x.cover(i % 10);
            x.reader(i, false);
        }
        for (int i = 0; i < 200; i++) {
            x.sheet();
            x.open(i);
            x.line(i, 7, 1, 1);
            x.report(i, i % 40, i % 60, i % 32, i % 100, i, i);
            x.bill(i, i % 40, 9, i);
        }
        for (int i = 0; i < 400; i++) {
            x.seen(i % 60, i % 100, i % 200, i % 200 + 30);
        }
        for (int i = 0; i < 60; i++) {
            x.finding(i, i % 40);
        }
        return x;
    }
}
