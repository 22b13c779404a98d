import java.lang.management.ManagementFactory;

/** All rows are made with the object: calls make next to nothing, whatever they are. */
final class RoomTest {
    private static final int ROUNDS = 2000;

    private RoomTest() {
    }

    public static void main(String[] args) {
        var threads = (com.sun.management.ThreadMXBean) ManagementFactory.getThreadMXBean();
        SummitTime x = Check.told("climber 2 3 4;bank 1 2 3;guide 9 1 9;deed 1 0 30");
        round(x);
        long before = threads.getCurrentThreadAllocatedBytes();
        for (int i = 0; i < ROUNDS; i++) {
            round(x);
        }
        long made = threads.getCurrentThreadAllocatedBytes() - before;
        // an object a round would be 16 bytes at least
        Check.holds("calls make nothing, but " + made + " bytes", made < 16L * ROUNDS);
        before = threads.getCurrentThreadAllocatedBytes();
        new SummitTime();
        made = threads.getCurrentThreadAllocatedBytes() - before;
        Check.holds("an object is small, but " + made + " bytes", made < 8000);
        Check.finish();
    }

    private static void round(SummitTime x) {
        x.write('f');
        x.write('o');
        x.write('g');
        x.write(' ');
        x.write('1');
        x.write(' ');
        x.write('2');
        x.fault();
        x.top();
        for (int p = 0; p < 3; p++) {
            x.start(p, p);
            x.rope(p, 1);
            x.best(p, 1);
            x.free(p);
            x.clear(p, 1, 5, 1);
            x.as(p, 0);
            x.seen(p, 1);
            for (int what = 0; what < 10; what++) {
                x.person(p, what);
                x.count(what);
            }
        }
        x.clock(3);
        x.halve(1, 0);
        x.sell(9, 2);
        x.keep(0);
        x.undo();
        x.back(0);
        x.order(7, 0, 0);
        x.order(7, 0, 3);
        x.reached();
        x.ropes(5);
        x.together(0, 1);
        x.clocks();
        x.second(3, 2);
        x.stays(0);
        x.forget();
        x.erase();
    }
}
