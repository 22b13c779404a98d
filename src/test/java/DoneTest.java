/** Promises 9 to 17: what is done. */
final class DoneTest {
    private DoneTest() {
    }

    public static void main(String[] args) {
        start();
        stays();
        rope();
        clock();
        halve();
        sell();
        undo();
        refusedIsNotUndone();
        keepAndBack();
        fines();
        Check.finish();
    }

    private static void start() {
        SummitTime x = Check.told("climber 5 3 4;guide 1 1 1;guide 9 1 1");
        Check.due("start(0, 0)", x.start(0, 0), 5);
        Check.due("start(1, 0)", x.start(1, 0), 1);
        Check.due("start(2, 59)", x.start(2, 59), 67);
        x.clock(9);
        Check.due("start(0, 7)", x.start(0, 7), 21);
        Check.due("in place of what was", x.person(0, 4), 7);
        Check.due("start(0, 60)", x.start(0, 60), SummitTime.OUTSIDE);
        Check.due("start(0, -1)", x.start(0, -1), SummitTime.OUTSIDE);
        Check.due("start(3, 60)", x.start(3, 60), SummitTime.UNKNOWN);
        Check.due("start(-1, 0)", x.start(-1, 0), SummitTime.UNKNOWN);
        Check.due("unchanged", x.person(0, 4), 7);
        Check.due("who go", x.count(2), 7);
    }

    private static void stays() {
        SummitTime x = Check.told("climber 5 3 4");
        Check.due("stays(0), not gone", x.stays(0), SummitTime.NOT);
        x.start(0, 0);
        Check.due("stays(0)", x.stays(0), 0);
        Check.due("nobody goes", x.count(2), 0);
        Check.due("stays(0) again", x.stays(0), SummitTime.NOT);
        Check.due("stays(1)", x.stays(1), SummitTime.UNKNOWN);
        Check.due("stays(-1)", x.stays(-1), SummitTime.UNKNOWN);
        Check.due("two to undo", x.count(8), 2);
    }

    private static void rope() {
        SummitTime x = Check.told("climber 5 3 4;climber 5 3 4");
        Check.due("rope(1, 1)", x.rope(1, 1), 0);
        Check.due("rope(1, 1) again", x.rope(1, 1), 1);
        Check.due("ropes", x.count(6), 2);
        Check.due("rope(1, 0)", x.rope(1, 0), 1);
        Check.due("rope(1, 0) again", x.rope(1, 0), 0);
        Check.due("no ropes", x.count(6), 0);
        Check.due("rope(1, 2)", x.rope(1, 2), SummitTime.OUTSIDE);
        Check.due("rope(1, -1)", x.rope(1, -1), SummitTime.OUTSIDE);
        Check.due("rope(2, 2)", x.rope(2, 2), SummitTime.UNKNOWN);
        Check.due("rope(-1, 0)", x.rope(-1, 0), SummitTime.UNKNOWN);
    }

    private static void clock() {
        SummitTime x = Check.told("climber 5 3 4");
        x.start(0, 0);
        Check.due("clock(9)", x.clock(9), 0);
        Check.due("later", x.person(0, 6), 14);
        Check.due("clock(2)", x.clock(2), 9);
        Check.due("in all, not besides", x.person(0, 6), 7);
        Check.due("clock(10)", x.clock(10), SummitTime.OUTSIDE);
        Check.due("clock(-1)", x.clock(-1), SummitTime.OUTSIDE);
        Check.due("count(1)", x.count(1), 2);
    }

    private static void halve() {
        SummitTime x = Check.told("climber 5 3 4;bank 1 1 1;deed 0 4 4;deed 0 7 8;deed 0 20 21;"
            + "deed 1 58 59");
        Check.due("halve(0, 1)", x.halve(0, 1), 2);
        int[][] due = {{4, 0}, {7, 1}, {8, 0}, {20, 1}, {21, 0}, {58, 1}};
        for (int[] row : due) {
            Check.due("whose is " + row[0], x.second(row[0], 0), row[1]);
        }
        Check.due("halve(0, 0)", x.halve(0, 0), SummitTime.UNKNOWN);
        Check.due("halve(0, 2)", x.halve(0, 2), SummitTime.UNKNOWN);
        Check.due("halve(2, 0)", x.halve(2, 0), SummitTime.UNKNOWN);
        Check.due("halve(-1, 0)", x.halve(-1, 0), SummitTime.UNKNOWN);
        Check.due("halve(0, -1)", x.halve(0, -1), SummitTime.UNKNOWN);
        Check.due("halve(0, 1) of 3", x.halve(0, 1), 1);
        Check.due("halve(0, 1) of 2", x.halve(0, 1), 1);
        Check.due("the first stays his", x.second(4, 0), 0);
        Check.due("halve(0, 1) of 1", x.halve(0, 1), SummitTime.NOT);
        Check.due("somebody's in all", x.count(4), 7);
    }

    private static void sell() {
        SummitTime x = Check.told("climber 5 3 4;bank 1 1 1;deed 0 0 9");
        Check.due("sell(0, 1)", x.sell(0, 1), 0);
        Check.due("sell(0, 1) again", x.sell(0, 1), SummitTime.NOT);
        Check.due("sell(0, NONE)", x.sell(0, SummitTime.NONE), 1);
        Check.due("sell(0, NONE) again", x.sell(0, SummitTime.NONE), SummitTime.NOT);
        Check.due("sell(0, 0)", x.sell(0, 0), SummitTime.NONE);
        Check.due("sell(59, 1)", x.sell(59, 1), SummitTime.NONE);
        Check.due("sell(60, 2)", x.sell(60, 2), SummitTime.UNKNOWN);
        Check.due("sell(0, -2)", x.sell(0, -2), SummitTime.UNKNOWN);
        Check.due("sell(60, 1)", x.sell(60, 1), SummitTime.OUTSIDE);
        Check.due("sell(-1, NONE)", x.sell(-1, SummitTime.NONE), SummitTime.OUTSIDE);
        Check.due("somebody's in all", x.count(4), 11);
    }

    private static void undo() {
        SummitTime x = Check.told("climber 5 3 4;bank 1 1 1;deed 0 0 9");
        x.start(0, 3);
        x.stays(0);
        x.rope(0, 1);
        x.clock(4);
        x.halve(0, 1);
        x.sell(40, 1);
        Check.due("six to undo", x.count(8), 6);
        Check.due("undo sell", x.undo(), 5);
        Check.due("nobody's", x.second(40, 0), SummitTime.NONE);
        Check.due("undo halve", x.undo(), 4);
        Check.due("ten his", x.person(0, 9), 10);
        Check.due("undo clock", x.undo(), 3);
        Check.due("clock right", x.count(1), 0);
        Check.due("undo rope", x.undo(), 2);
        Check.due("no rope", x.count(6), 0);
        Check.due("undo stays", x.undo(), 1);
        Check.due("goes", x.person(0, 4), 3);
        Check.due("undo start", x.undo(), 0);
        Check.due("does not go", x.person(0, 4), SummitTime.NONE);
        Check.due("undo nothing", x.undo(), SummitTime.NOT);
        for (int i = 0; i < 20; i++) {
            x.clock(i % 10);
        }
        for (int left = 7; left >= 0; left--) {
            Check.due("undo of the last 8", x.undo(), left);
            Check.due("clock then", x.count(1), left + 1);
        }
        Check.due("a ninth", x.undo(), SummitTime.NOT);
        x.rope(0, 0);
        Check.due("one by which nothing became other", x.undo(), 0);
    }

    private static void refusedIsNotUndone() {
        SummitTime x = Check.told("climber 5 3 4;bank 1 1 1");
        x.start(0, 60);
        x.stays(0);
        x.rope(0, 2);
        x.clock(10);
        x.halve(0, 1);
        x.sell(0, SummitTime.NONE);
        x.keep(0);
        x.seen(0, 0);
        Check.due("nothing to undo", x.count(8), 0);
        x.clock(1);
        x.undo();
        Check.due("seen stays", x.count(7), 1);
    }

    private static void keepAndBack() {
        SummitTime x = Check.told("climber 5 3 4;bank 1 1 1;deed 0 0 9");
        Check.due("keep(2)", x.keep(2), SummitTime.UNKNOWN);
        Check.due("keep(-1)", x.keep(-1), SummitTime.UNKNOWN);
        x.clock(3);
        x.start(1, 8);
        x.rope(1, 1);
        x.sell(0, 1);
        Check.due("keep(1)", x.keep(1), 3);
        Check.due("keep is not undone", x.count(8), 4);
        x.clock(7);
        x.stays(1);
        x.rope(1, 0);
        x.halve(0, 1);
        x.seen(0, 5);
        Check.put(x, "hut");
        Check.due("back(0)", x.back(0), SummitTime.NOT);
        Check.due("back(2)", x.back(2), SummitTime.UNKNOWN);
        Check.due("back(-1)", x.back(-1), SummitTime.UNKNOWN);
        Check.due("refused: still to undo", x.count(8), 8);
        Check.due("back(1)", x.back(1), 3);
        Check.due("clock", x.count(1), 3);
        Check.due("start", x.person(1, 4), 8);
        Check.due("rope", x.count(6), 2);
        Check.due("his", x.person(0, 9), 9);
        Check.due("sold", x.second(0, 0), 1);
        Check.due("text stays", x.count(9), 3);
        Check.due("seen stays", x.count(7), 1);
        Check.due("nothing to undo", x.undo(), SummitTime.NOT);
        x.clock(0);
        Check.due("back(1) again", x.back(1), 3);
        Check.due("keep(0)", x.keep(0), 3);
        x.clock(9);
        Check.due("keep(0) in its place", x.keep(0), 9);
        Check.due("back(1), the other", x.back(1), 3);
        Check.due("back(0)", x.back(0), 9);
    }

    private static void fines() {
        SummitTime x = Check.told("climber 1 4 3;mourner 1 6 5;bank 1 2 7;climber 1 6 0;"
            + "deed 2 10 19;deed 0 20 22;deed 1 50 59;fog 12 12");
        x.start(0, 10);
        Check.due("bank's twice, but in fog", x.person(0, 8), 3 * 14);
        x.start(0, 21);
        Check.due("his and nobody's", x.person(0, 8), 0);
        x.start(0, 51);
        Check.due("mourner's", x.person(0, 8), 4 * 5);
        x.sell(48, 0);
        x.sell(51, 0);
        x.start(1, 46);
        Check.due("mourner from 50 on", x.person(1, 8), 3);
        x.stays(1);
        x.start(0, 10);
        x.start(2, 10);
        x.start(3, 10);
        Check.due("third in two seconds, fog too", x.person(3, 8), 5 * 14 + 2);
        x.start(1, 10);
        Check.due("bank on its own, crowded twice", x.person(2, 8), 2);
        Check.due("fourth in six", x.person(3, 8), 5 * 14 + 4);
        x.rope(3, 1);
        x.rope(2, 1);
        Check.due("half", x.person(3, 8), 37);
        Check.due("half of two", x.person(2, 8), 1);
        x.stays(1);
        x.start(2, 13);
        Check.due("no two ahead", x.person(2, 8), 0);
        Check.due("half of 71, cut", x.person(3, 8), 35);
    }
}
