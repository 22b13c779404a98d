/** Promises 24 to 28: what was seen. */
final class SeenTest {
    private SeenTest() {
    }

    public static void main(String[] args) {
        seen();
        forget();
        clocks();
        clocksAsThingsAreNow();
        clear();
        count();
        Check.finish();
    }

    private static void seen() {
        SummitTime x = Check.told("climber 5 3 4;climber 5 3 4");
        Check.due("seen(0, 100)", x.seen(0, 100), SummitTime.OUTSIDE);
        Check.due("seen(0, -1)", x.seen(0, -1), SummitTime.OUTSIDE);
        Check.due("seen(2, 100)", x.seen(2, 100), SummitTime.UNKNOWN);
        Check.due("seen(-1, 0)", x.seen(-1, 0), SummitTime.UNKNOWN);
        for (int i = 1; i <= 6; i++) {
            Check.due("seen no. " + i, x.seen(i % 2, i == 1 ? 99 : 0), i);
        }
        Check.due("seen no. 7", x.seen(0, 0), SummitTime.FULL);
        Check.due("seen no. 7, outside", x.seen(0, 100), SummitTime.OUTSIDE);
        Check.due("seen no. 7, unknown", x.seen(2, 0), SummitTime.UNKNOWN);
        Check.due("count(7)", x.count(7), 6);
    }

    private static void forget() {
        SummitTime x = Check.told("climber 5 3 4");
        x.seen(0, 1);
        x.seen(0, 0);
        Check.due("against itself", x.clocks(), 0);
        Check.due("forget()", x.forget(), 2);
        Check.due("all clocks again", x.clocks(), 1023);
        Check.due("forget() again", x.forget(), 0);
        Check.due("seen anew", x.seen(0, 0), 1);
        Check.due("nobody goes, nothing fined", x.clocks(), 1023);
    }

    private static void clocks() {
        SummitTime x = Check.told("climber 1 2 4;climber 1 1 1;deed 0 5 8;deed 1 9 9");
        x.start(1, 2);
        // he stands in 3 + the clock: 5..8 are two to five set on
        x.seen(1, 4);
        Check.due("by rent", x.clocks(), 0b111100);
        x.start(0, 3);
        // he stands in 4 and 5 + the clock: 9 is one of them by four and five
        x.seen(0, 1);
        Check.due("by both", x.clocks(), 0b110000);
        x.clock(7);
        Check.due("whatever the clock is", x.clocks(), 0b110000);
        x.seen(0, 2);
        Check.due("by none", x.clocks(), 0);
    }

    private static void clocksAsThingsAreNow() {
        SummitTime x = Check.told("climber 1 2 4;climber 1 1 1;deed 0 5 8");
        x.start(1, 2);
        x.seen(1, 4);
        x.start(1, 4);
        Check.due("STARTS as they are now", x.clocks(), 0b1111);
        x.rope(1, 1);
        Check.due("ROPES as they are now", x.clocks(), 0);
        x.forget();
        x.seen(1, 2);
        Check.due("half", x.clocks(), 0b1111);
    }

    private static void odds(SummitTime x, int person, int k, int q, int above, int below) {
        String call = "clear(" + person + ", " + k + ", " + q + ")";
        Check.due(call + " above", x.clear(person, k, q, 0), above);
        Check.due(call + " below", x.clear(person, k, q, 1), below);
    }

    private static void clear() {
        SummitTime x = Check.told("climber 5 6 4;climber 1 2 0;fog 0 59");
        odds(x, 0, 0, 5, 1, 1);
        odds(x, 0, 1, 5, 0, 1);
        x.start(0, 0);
        odds(x, 0, 6, 9, 1, 1000000);
        odds(x, 0, 6, 3, 117649, 1000000);
        odds(x, 0, 1, 5, 63, 64);
        odds(x, 0, 0, 7, 1, 1);
        odds(x, 0, 6, 0, 1, 1);
        odds(x, 0, 1, 10, 0, 1);
        odds(x, 0, 0, 10, 1, 1);
        x.start(1, 0);
        odds(x, 1, 1, 4, 21, 25);
        odds(x, 1, 2, 4, 9, 25);
        odds(x, 1, 3, 0, 0, 1);
        x.start(1, 58);
        odds(x, 1, 1, 4, 3, 5);
        x.clock(1);
        odds(x, 1, 0, 4, 1, 1);
        odds(x, 1, 1, 4, 0, 1);
        Check.due("k 7", x.clear(0, 7, 0, 0), SummitTime.OUTSIDE);
        Check.due("k -1", x.clear(0, -1, 0, 0), SummitTime.OUTSIDE);
        Check.due("q 11", x.clear(0, 0, 11, 0), SummitTime.OUTSIDE);
        Check.due("q -1", x.clear(0, 0, -1, 0), SummitTime.OUTSIDE);
        Check.due("part 2", x.clear(0, 0, 0, 2), SummitTime.OUTSIDE);
        Check.due("part -1", x.clear(0, 0, 0, -1), SummitTime.OUTSIDE);
        Check.due("clear(2, 9, 9, 9)", x.clear(2, 9, 9, 9), SummitTime.UNKNOWN);
    }

    private static void count() {
        SummitTime x = Check.told("climber 1 2 4;bank 1 1 6;climber 1 2 0;deed 1 0 19;deed 0 20 20;fog 3 5");
        x.start(0, 7);
        x.start(2, 59);
        x.rope(0, 1);
        x.clock(4);
        x.seen(0, 3);
        Check.put(x, "hut");
        int[] due = {3, 4, 5, 12, 21, 3, 1, 1, 4, 3};
        for (int what = 0; what < due.length; what++) {
            Check.due("count(" + what + ")", x.count(what), due[what]);
        }
        x.rope(0, 0);
        Check.due("FINES of all", x.count(3), 24);
        Check.due("count(10)", x.count(10), SummitTime.OUTSIDE);
        Check.due("count(-1)", x.count(-1), SummitTime.OUTSIDE);
    }
}
