/** Promises 1 to 8: what is told. */
final class ToldTest {
    private ToldTest() {
    }

    public static void main(String[] args) {
        newObject();
        write();
        erase();
        faultPlaces();
        faultBounds();
        faultPeople();
        faultClauses();
        top();
        topPutsBack();
        topAddsToEarlierTexts();
        person();
        second();
        as();
        Check.finish();
    }

    private static void newObject() {
        SummitTime x = new SummitTime();
        for (int what = 0; what <= 9; what++) {
            Check.due("new count(" + what + ")", x.count(what), 0);
        }
        for (int s = 0; s < 60; s++) {
            Check.due("new second(" + s + ", 0)", x.second(s, 0), SummitTime.NONE);
            Check.due("new second(" + s + ", 1)", x.second(s, 1), 0);
            Check.due("new second(" + s + ", 2)", x.second(s, 2), 0);
        }
        Check.due("new person(0, 0)", x.person(0, 0), SummitTime.UNKNOWN);
        Check.due("new undo()", x.undo(), SummitTime.NOT);
        Check.due("new back(0)", x.back(0), SummitTime.NOT);
    }

    private static void write() {
        SummitTime x = new SummitTime();
        Check.due("write(-1)", x.write(-1), SummitTime.OUTSIDE);
        Check.due("write(256)", x.write(256), SummitTime.OUTSIDE);
        Check.due("write(0)", x.write(0), 1);
        Check.due("write(255)", x.write(255), 2);
        for (int i = 3; i <= 160; i++) {
            Check.due("write no. " + i, x.write(32), i);
        }
        Check.due("write no. 161", x.write(32), SummitTime.FULL);
        Check.due("write(256), full", x.write(256), SummitTime.OUTSIDE);
        Check.due("count(9), full", x.count(9), 160);
        Check.due("fault() of write(0)", x.fault(), 0);
    }

    private static void erase() {
        SummitTime x = new SummitTime();
        Check.due("erase(), empty", x.erase(), 0);
        Check.put(x, "hut");
        Check.due("erase()", x.erase(), 3);
        Check.due("count(9), erased", x.count(9), 0);
        Check.due("erase() again", x.erase(), 0);
    }

    private static void fault(String earlier, String text, int place) {
        SummitTime x = earlier.isEmpty() ? new SummitTime() : Check.told(earlier);
        Check.put(x, text);
        Check.due("fault() of '" + text + "' behind '" + earlier + "'", x.fault(), place);
        Check.due("fault() again of '" + text + "'", x.fault(), place);
        int people = x.count(0);
        if (place != SummitTime.NONE) {
            Check.due("top() of '" + text + "'", x.top(), SummitTime.NOT);
            Check.due("letters left of '" + text + "'", x.count(9), text.length());
        }
        Check.due("people behind '" + text + "'", x.count(0), people);
    }

    private static void faultPlaces() {
        fault("", "", 0);
        fault("", "   ", 3);
        fault("", "top", SummitTime.NONE);
        fault("", "  top  ", SummitTime.NONE);
        fault("", "  tops", 2);
        fault("", "to", 0);
        fault("", "Top", 0);
        fault("", "tOp", 0);
        fault("", "xop", 0);
        fault("", "xog 1 2", 0);
        fault("", "topz", 0);
        fault("", "top" + (char) 96, 3);
        fault("", "top{", 3);
        fault("", "fog 1/ 2", 5);
        fault("", "fog 1 2:", 7);
        fault("", "top clear", 4);
        fault("", "topclear", 0);
        fault("", "top;clear", SummitTime.NONE);
        fault("", "top ; clear", SummitTime.NONE);
        fault("", ";top", 0);
        fault("", "top;;clear", 4);
        fault("", "top;", 4);
        fault("", "top;  ", 6);
        fault("", "top.", 3);
        fault("", "top\t", 3);
        fault("", "top 1", 4);
        fault("", "top1", 3);
        fault("", "top" + (char) 233, 3);
        fault("", "7", 0);
        fault("", "climber", 7);
        fault("", "climber ", 8);
        fault("", "climber 1 1", 11);
        fault("", "climber;", 7);
        fault("", "climber 1;1 1", 9);
        fault("", "climber one 1 1", 8);
        fault("", "climber -1 1 1", 8);
        fault("", "climber5 3 4", SummitTime.NONE);
        fault("", "climber5 3 4clear", 12);
        fault("", "climber 5 3 4;clear", SummitTime.NONE);
        fault("", "climber 5 3 4 4", 14);
        fault("", "fog 1 2fog 3 4", 7);
    }

    private static void faultBounds() {
        for (String kind : new String[] {"climber", "guide", "mourner", "bank"}) {
            int n = kind.length();
            fault("", kind + " 0 1 1", n + 1);
            fault("", kind + " 21 1 1", n + 1);
            fault("", kind + " 1 0 1", n + 3);
            fault("", kind + " 1 7 1", n + 3);
            fault("", kind + " 1 1 21", n + 5);
            fault("", kind + " 001 1 1", n + 1);
            fault("", kind + " 1 1 000", n + 5);
            fault("", kind + " 20 6 20", SummitTime.NONE);
            fault("", kind + " 01 06 00", SummitTime.NONE);
        }
        fault("", "fog 0 59", SummitTime.NONE);
        fault("", "fog 59 59", SummitTime.NONE);
        fault("", "fog 60 60", 4);
        fault("", "fog 5 4", 6);
        fault("", "fog 5 60", 6);
        fault("", "fog 05 005", 7);
        fault("", "fog 99999999999 1", 4);
        fault("", "deed 0 0 0", 5);
        fault("", "deed", 4);
        fault("bank 1 1 1", "deed 0 0 59", SummitTime.NONE);
        fault("bank 1 1 1", "deed 1 0 59", 5);
        fault("bank 1 1 1", "deed 0 60 60", 7);
        fault("bank 1 1 1", "deed 0 9 8", 9);
        fault("bank 1 1 1", "deed 0 9 60", 9);
        fault("bank 1 1 1", "deed 0 9", 8);
    }

    private static final String SIX = "bank 1 1 1;bank 1 1 1;bank 1 1 1;"
        + "bank 1 1 1;bank 1 1 1;bank 1 1 1";

    private static void faultPeople() {
        fault("", SIX, SummitTime.NONE);
        fault("", SIX + ";guide 1 1 1", 66);
        fault("", SIX + "; guide", 67);
        fault(SIX, "climber 1 1 1", 0);
        fault(SIX, "top;climber 1 1 1", SummitTime.NONE);
        fault(SIX, "top;deed 0 0 0", 9);
        fault(SIX, "top;climber 1 1 1;deed 0 0 0", SummitTime.NONE);
        fault(SIX, "top;climber 1 1 1;deed 1 0 0", 23);
        fault("", "climber 1 1 1;deed 0 0 0", SummitTime.NONE);
        fault("", "deed 0 0 0;climber 1 1 1", 5);
    }

    private static void faultClauses() {
        String fourteen = "top;top;top;top;top;top;top;top;top;top;top;top;top;top";
        fault("", fourteen, SummitTime.NONE);
        fault("", fourteen + "  ", SummitTime.NONE);
        fault("", fourteen + ";", 55);
        fault("", fourteen + ";top", 55);
        fault("", fourteen + " ;top", 56);
        fault("", fourteen + "top", 52);
    }

    private static void top() {
        SummitTime x = new SummitTime();
        Check.due("top() of nothing", x.top(), SummitTime.NOT);
        Check.put(x, "climber 5 3 4;fog 1 3;fog 3 6;deed 0 2 9;deed 0 20 21");
        Check.due("top()", x.top(), 5);
        Check.due("letters behind top()", x.count(9), 0);
        Check.due("people behind top()", x.count(0), 1);
        Check.due("clouds behind top()", x.count(5), 6);
        Check.due("owned behind top()", x.count(4), 10);
        Check.put(x, "clear;fog 9 9");
        Check.due("top() of clear", x.top(), 2);
        Check.due("clouds behind clear", x.count(5), 1);
        Check.put(x, "top");
        Check.due("top() of top", x.top(), 1);
        for (int what = 0; what <= 9; what++) {
            Check.due("count(" + what + ") behind top", x.count(what), 0);
        }
    }

    private static void topPutsBack() {
        SummitTime x = Check.told("climber 5 3 4;bank 2 2 2;deed 0 10 19");
        x.start(0, 4);
        x.rope(0, 1);
        x.clock(5);
        x.halve(0, 1);
        x.sell(10, SummitTime.NONE);
        x.sell(30, 1);
        x.seen(0, 3);
        x.keep(0);
        x.keep(1);
        Check.due("sold before", x.person(0, 9), 4);
        Check.put(x, "hut");
        Check.due("top() with a fault", x.top(), SummitTime.NOT);
        Check.due("still sold", x.person(0, 9), 4);
        Check.due("still undoable", x.count(8), 6);
        x.erase();
        Check.tell(x, "fog 0 0");
        Check.due("as told again", x.person(0, 9), 10);
        Check.due("none sold", x.person(1, 9), 0);
        Check.due("nobody's again", x.second(30, 0), SummitTime.NONE);
        Check.due("nobody started", x.count(2), 0);
        Check.due("clock right", x.count(1), 0);
        Check.due("no ropes", x.count(6), 0);
        Check.due("nothing seen", x.count(7), 0);
        Check.due("nothing to undo", x.undo(), SummitTime.NOT);
        Check.due("nothing kept 0", x.back(0), SummitTime.NOT);
        Check.due("nothing kept 1", x.back(1), SummitTime.NOT);
    }

    private static void topAddsToEarlierTexts() {
        SummitTime x = Check.told("climber 5 3 4;deed 0 0 9;fog 3 3");
        Check.tell(x, "guide 7 2 1;deed 1 5 14;fog 4 4");
        Check.due("two people", x.count(0), 2);
        Check.due("first keeps five", x.person(0, 9), 5);
        Check.due("second has ten", x.person(1, 9), 10);
        Check.due("two clouds", x.count(5), 2);
    }

    private static void person() {
        SummitTime x = Check.told("climber 5 3 4;guide 6 2 3;mourner 7 6 2;bank 20 1 10;"
            + "deed 3 0 9;deed 0 10 12");
        int[][] asTold = {{0, 5, 3, 4}, {1, 6, 2, 3}, {2, 7, 6, 2}, {3, 20, 1, 10}};
        for (int p = 0; p < 4; p++) {
            for (int what = 0; what < 4; what++) {
                Check.due("person(" + p + ", " + what + ")", x.person(p, what), asTold[p][what]);
            }
            Check.due("START of " + p, x.person(p, 4), SummitTime.NONE);
            Check.due("ROPE of " + p, x.person(p, 5), 0);
            Check.due("first of " + p, x.person(p, 6), SummitTime.NONE);
            Check.due("stood by " + p, x.person(p, 7), 0);
            Check.due("FINE of " + p, x.person(p, 8), 0);
        }
        Check.due("his", x.person(3, 9), 10);
        x.start(1, 3);
        x.rope(1, 1);
        Check.due("START", x.person(1, 4), 3);
        Check.due("ROPE", x.person(1, 5), 1);
        Check.due("first", x.person(1, 6), 8);
        Check.due("stood", x.person(1, 7), 2);
        Check.due("FINE: 40, half", x.person(1, 8), 20);
        x.start(2, 50);
        Check.due("cut at 59: first", x.person(2, 6), 57);
        Check.due("cut at 59: stood", x.person(2, 7), 3);
        x.start(2, 53);
        Check.due("behind 59: first", x.person(2, 6), SummitTime.NONE);
        Check.due("behind 59: stood", x.person(2, 7), 0);
        Check.due("behind 59: START", x.person(2, 4), 53);
        Check.due("person(4, 0)", x.person(4, 0), SummitTime.UNKNOWN);
        Check.due("person(-1, 10)", x.person(-1, 10), SummitTime.UNKNOWN);
        Check.due("person(0, 10)", x.person(0, 10), SummitTime.OUTSIDE);
        Check.due("person(0, -1)", x.person(0, -1), SummitTime.OUTSIDE);
    }

    private static void second() {
        SummitTime x = Check.told("climber 1 3 4;climber 1 1 4;deed 1 59 59;fog 59 59");
        Check.due("second(59, 0)", x.second(59, 0), 1);
        Check.due("second(59, 1)", x.second(59, 1), 1);
        Check.due("second(58, 0)", x.second(58, 0), SummitTime.NONE);
        Check.due("second(58, 1)", x.second(58, 1), 0);
        x.start(0, 56);
        x.start(1, 58);
        Check.due("second(58, 2)", x.second(58, 2), 1);
        Check.due("second(59, 2)", x.second(59, 2), 3);
        Check.due("second(56, 2)", x.second(56, 2), 0);
        Check.due("second(-1, 0)", x.second(-1, 0), SummitTime.OUTSIDE);
        Check.due("second(60, 0)", x.second(60, 0), SummitTime.OUTSIDE);
        Check.due("second(0, 3)", x.second(0, 3), SummitTime.OUTSIDE);
        Check.due("second(0, -1)", x.second(0, -1), SummitTime.OUTSIDE);
    }

    private static void as() {
        SummitTime x = Check.told("climber 5 3 4;guide 6 2 3;mourner 7 6 2;bank 20 1 10;guide 1 1 0");
        int not = SummitTime.NOT;
        int[][] due = {
            {405, 405, not, not, not},
            {305, 305, 305, not, not},
            {207, 207, not, 207, not},
            {2020, not, not, not, 2020},
            {1, 1, 1, not, not}};
        for (int p = 0; p < due.length; p++) {
            for (int kind = 0; kind < 5; kind++) {
                Check.due("as(" + p + ", " + kind + ")", x.as(p, kind), due[p][kind]);
            }
        }
        Check.due("as(0, 5)", x.as(0, 5), SummitTime.OUTSIDE);
        Check.due("as(0, -1)", x.as(0, -1), SummitTime.OUTSIDE);
        Check.due("as(5, 9)", x.as(5, 9), SummitTime.UNKNOWN);
        Check.due("as(-1, 0)", x.as(-1, 0), SummitTime.UNKNOWN);
    }
}
