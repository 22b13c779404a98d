/** Promises 18 to 23: foretold. */
final class ForetoldTest {
    private static final long ALL = (1L << 60) - 1;

    private ForetoldTest() {
    }

    public static void main(String[] args) {
        best();
        bestWithRopeAndCrowd();
        order();
        orderByNumbers();
        orderByRights();
        reached();
        free();
        ropes();
        together();
        nothingChanges();
        Check.finish();
    }

    /** Bits from .. to. */
    private static long bits(int from, int to) {
        long row = 0;
        for (int s = from; s <= to; s++) {
            row |= 1L << s;
        }
        return row;
    }

    private static void best() {
        SummitTime x = Check.told("climber 5 3 4;bank 2 1 7;deed 1 0 59;deed 0 30 31;fog 40 40");
        Check.due("best START", x.best(0, 0), 24);
        Check.due("how much", x.best(0, 1), 14);
        x.sell(57, SummitTime.NONE);
        x.sell(58, SummitTime.NONE);
        x.sell(59, SummitTime.NONE);
        Check.due("the last START by which he stands for all", x.best(0, 0), 52);
        Check.due("for nothing", x.best(0, 1), 0);
        x.clock(9);
        Check.due("by the clock", x.best(0, 0), 43);
        Check.due("his own, the first", x.best(1, 0), 0);
        Check.due("what 2", x.best(0, 2), SummitTime.OUTSIDE);
        Check.due("what -1", x.best(0, -1), SummitTime.OUTSIDE);
        Check.due("best(2, 2)", x.best(2, 2), SummitTime.UNKNOWN);
        Check.due("best(-1, 0)", x.best(-1, 0), SummitTime.UNKNOWN);
    }

    private static void bestWithRopeAndCrowd() {
        SummitTime x = Check.told("climber 1 6 1;climber 1 6 1;climber 1 1 1;deed 0 8 59");
        x.start(0, 0);
        x.start(1, 0);
        Check.due("behind the crowd", x.best(2, 0), 6);
        x.sell(7, 0);
        Check.due("the first of those who cost 1", x.best(2, 0), 0);
        Check.due("how much", x.best(2, 1), 1);
        Check.due("lesser ones are not crowded", x.best(1, 0), 0);
        SummitTime y = Check.told("climber 1 1 0;climber 1 1 3;climber 1 1 2;deed 1 0 29;deed 2 30 59");
        Check.due("without a rope the cheaper", y.best(0, 0), 29);
        y.rope(0, 1);
        Check.due("with a rope both are 1: the first", y.best(0, 0), 0);
        Check.due("how much with a rope", y.best(0, 1), 1);
    }

    private static void order() {
        SummitTime x = Check.told("climber 2 3 4;climber 4 2 6;bank 1 1 5;deed 2 0 9;deed 0 10 14");
        Check.due("of nobody", x.order(0, 59, 0), 0);
        Check.due("of nobody, the first", x.order(0, 59, 1), SummitTime.NONE);
        Check.due("alone from 0", x.order(1, 0, 0), 30);
        Check.due("alone: who", x.order(2, 0, 1), 1);
        Check.due("alone: second", x.order(2, 0, 2), SummitTime.NONE);
        // 0 then 1: 2..4 costs 30, then 9..10 costs 10 + 4; 1 then 0: 4..5 costs 20, then 8..10 costs 20
        Check.due("two", x.order(3, 0, 0), 40);
        Check.due("two: first", x.order(3, 0, 1), 1);
        Check.due("two: second", x.order(3, 0, 2), 0);
        Check.due("two: third", x.order(3, 0, 3), SummitTime.NONE);
        x.rope(0, 1);
        Check.due("a rope counts", x.order(3, 0, 0), 29);
        Check.due("a rope counts: first", x.order(3, 0, 1), 0);
        Check.due("unknown set", x.order(8, 60, 9), SummitTime.UNKNOWN);
        Check.due("negative set", x.order(-1, 0, 0), SummitTime.UNKNOWN);
        Check.due("a 60", x.order(1, 60, 0), SummitTime.OUTSIDE);
        Check.due("a -1", x.order(1, -1, 0), SummitTime.OUTSIDE);
        Check.due("what 7", x.order(1, 0, 7), SummitTime.OUTSIDE);
        Check.due("what -1", x.order(1, 0, -1), SummitTime.OUTSIDE);
        Check.due("what 6", x.order(7, 0, 6), SummitTime.NONE);
    }

    private static void orderByNumbers() {
        SummitTime x = Check.told("climber 1 1 1;climber 1 1 1;climber 1 1 1;climber 1 1 1;"
            + "climber 1 1 1;climber 1 1 1");
        for (int i = 1; i <= 6; i++) {
            Check.due("all alike, place " + i, x.order(63, 0, i), i - 1);
        }
        for (int i = 1; i <= 3; i++) {
            Check.due("some alike, place " + i, x.order(42, 0, i), 2 * i - 1);
        }
        x.start(0, 0);
        x.start(1, 0);
        x.start(2, 0);
        Check.due("nobody else goes", x.order(8, 0, 0), 0);
        x.sell(1, 0);
        x.sell(3, 0);
        Check.due("0 goes first or second, once", x.order(7, 0, 0), 1);
        Check.due("0 is first of several rows", x.order(7, 0, 1), 0);
    }

    private static void orderByRights() {
        SummitTime x = Check.told("climber 1 6 1;climber 20 6 1;bank 1 1 10;deed 2 0 59");
        Check.due("last START is 59", x.order(3, 52, 0), 120);
        Check.due("the quick one first", x.order(3, 52, 1), 0);
        Check.due("last START would be 60", x.order(3, 53, 0), SummitTime.NONE);
        Check.due("last START would be 60: who", x.order(3, 53, 1), SummitTime.NONE);
        Check.due("alone at 59", x.order(2, 59, 0), 0);
        x.clock(1);
        Check.due("by the clock", x.order(3, 52, 0), SummitTime.NONE);
        Check.due("by the clock, 1 before", x.order(3, 51, 0), 120);
        x.clock(0);
        // he stands from 59 on, by rights to 64: the next one starts at 65
        Check.due("by rights", x.order(7, 39, 1), 0);
        Check.due("by rights, too late", x.order(6, 39, 1), 2);
    }

    private static void reached() {
        SummitTime x = Check.told("climber 9 1 0;guide 8 1 0;bank 20 6 0");
        Check.due("from the quickest WALK on", x.reached(), bits(7, 59));
        x.clock(9);
        Check.due("by the clock", x.reached(), bits(16, 59));
        Check.due("by nobody", new SummitTime().reached(), 0);
        Check.due("by one who walks one", Check.told("guide 1 1 0").reached(), bits(1, 59));
    }

    private static void free() {
        SummitTime x = Check.told("climber 5 3 4;mourner 5 3 0;bank 5 3 1;deed 0 0 9;deed 1 10 19;"
            + "deed 2 45 55;fog 5 5;fog 46 46");
        Check.due("climber's", x.free(0), ALL & ~bits(45, 55) | bits(46, 46));
        Check.due("mourner's", x.free(1), ALL & ~bits(0, 9) & ~bits(45, 49) | bits(5, 5) | bits(46, 46));
        Check.due("bank's", x.free(2), ALL & ~bits(0, 9) | bits(5, 5));
        Check.due("free(3)", x.free(3), SummitTime.UNKNOWN);
        Check.due("free(-1)", x.free(-1), SummitTime.UNKNOWN);
    }

    private static void ropes() {
        SummitTime x = Check.told("climber 1 5 4;climber 1 1 4;climber 1 3 4;bank 1 1 10;deed 3 0 59");
        Check.due("nobody goes", x.ropes(0), 0);
        x.start(0, 0);
        x.start(1, 20);
        x.start(2, 30);
        Check.due("100, 20, 60: 99", x.ropes(99), 1);
        Check.due("60", x.ropes(60), 1);
        Check.due("59", x.ropes(59), 5);
        Check.due("50", x.ropes(50), 5);
        Check.due("49", x.ropes(49), SummitTime.NONE);
        x.rope(1, 1);
        x.rope(0, 1);
        Check.due("ropes now do not matter", x.ropes(50), 5);
        Check.due("ropes(100)", x.ropes(100), SummitTime.OUTSIDE);
        Check.due("ropes(-1)", x.ropes(-1), SummitTime.OUTSIDE);
        SummitTime y = Check.told("climber 1 1 1;climber 1 1 0;deed 0 1 1");
        y.start(1, 0);
        Check.due("half of one is none", y.ropes(0), 2);
    }

    private static void together() {
        SummitTime x = Check.told("climber 1 6 4;guide 3 4 4");
        Check.due("nobody goes", x.together(0, 1), 0);
        x.start(0, 0);
        Check.due("one goes", x.together(0, 1), 0);
        x.start(1, 3);
        Check.due("1..6 and 5..8", x.together(0, 1), 2);
        Check.due("the other way", x.together(1, 0), 2);
        x.start(0, 57);
        x.start(1, 56);
        Check.due("cut at 59", x.together(0, 1), 2);
        Check.due("himself", x.together(0, 0), SummitTime.UNKNOWN);
        Check.due("together(0, 2)", x.together(0, 2), SummitTime.UNKNOWN);
        Check.due("together(-1, 0)", x.together(-1, 0), SummitTime.UNKNOWN);
    }

    private static void nothingChanges() {
        SummitTime x = Check.told("climber 1 6 4;guide 3 4 4;deed 0 3 33");
        x.start(0, 7);
        x.rope(1, 1);
        x.clock(2);
        x.best(1, 0);
        x.order(3, 0, 0);
        x.order(3, 0, 1);
        x.ropes(3);
        x.reached();
        x.free(0);
        x.clocks();
        Check.due("starts", x.count(2), 1);
        Check.due("START", x.person(0, 4), 7);
        Check.due("ropes", x.count(6), 2);
        Check.due("clock", x.count(1), 2);
        Check.due("undos", x.count(8), 3);
    }
}
