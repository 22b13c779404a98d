/** Terms, 59: what CLAUSES do, in their order, and how all is behind them. */
final class ClausesTest {
    private static final int NONE = SummitTime.NONE;
    private static final int NOT = SummitTime.NOT;
    private static final int UNKNOWN = SummitTime.UNKNOWN;
    private static final String TWO = "climber 5 3 4;bank 2 2 2;deed 0 10 19";

    private ClausesTest() {
    }

    public static void main(String[] args) {
        nobodyAtFirst();
        peopleAsTheyCome();
        numbersAreTold();
        deedOverDeed();
        deedAtTheEnds();
        fogTooAndClear();
        fogAtTheEnds();
        topAsAtFirst();
        inTheirOrder();
        earlierTextsStay();
        faultDoesNothing();
        faultIsOnlyAsked();
        ownersAsTold();
        nobodyHasStarted();
        clockIsRight();
        nobodyHasRope();
        nothingIsSeen();
        nothingIsKept();
        nothingCanBeUndone();
        howManyClauses();
        eraseIsOfTheTextAlone();
        forgetIsOfTheSeenAlone();
        keepIsOfTheKeptAlone();
        Check.finish();
    }

    /** "PEOPLE .. (none at first)", "nobody's (all at first)", "CLOUDED (none at first)" */
    private static void nobodyAtFirst() {
        Run run = Run.anew();
        for (int what = 0; what <= 9; what++) {
            run.due("count(" + what + ")", 0);
        }
        for (int second = 0; second <= 59; second++) {
            run.due("second(" + second + ", 0)", NONE).due("second(" + second + ", 1)", 0);
            run.due("second(" + second + ", 2)", 0);
        }
        for (int person = -1; person <= 6; person++) {
            run.due("person(" + person + ", 0)", UNKNOWN);
        }
        run.due("undo()", NOT).due("back(0)", NOT).due("back(1)", NOT).due("forget()", 0).due("erase()", 0);
        run.due("clocks()", 1023).due("reached()", 0).due("ropes(0)", 0).due("order(0, 0, 0)", 0);
    }

    /** "PEOPLE are 0, 1 .. as they come, 6 at most" */
    private static void peopleAsTheyCome() {
        Run run = Run.told("bank 1 1 1;mourner 1 1 1;guide 1 1 1;climber 1 1 1;bank 2 1 1");
        int[] kinds = {3, 2, 1, 0, 3};
        for (int person = 0; person < 5; person++) {
            run.due("person(" + person + ", 0)", kinds[person]);
        }
        run.due("count(0)", 5).due("person(5, 0)", UNKNOWN);
        run.tell("mourner 9 1 1").due("count(0)", 6).due("person(5, 0)", 2).due("person(5, 1)", 9);
        run.due("person(6, 0)", UNKNOWN).due("person(-1, 0)", UNKNOWN);
    }

    /** "one more of PACE P, STAY S, RENT R": the least and the greatest */
    private static void numbersAreTold() {
        String[] kinds = {"climber", "guide", "mourner", "bank"};
        for (int kind = 0; kind < 4; kind++) {
            Run run = Run.told(kinds[kind] + " 1 1 0;" + kinds[kind] + " 20 6 20;" + kinds[kind] + " 10 2 19");
            int[][] due = {{kind, 1, 1, 0}, {kind, 20, 6, 20}, {kind, 10, 2, 19}};
            for (int person = 0; person < 3; person++) {
                for (int what = 0; what < 4; what++) {
                    run.due("person(" + person + ", " + what + ")", due[person][what]);
                }
                run.due("person(" + person + ", 4)", NONE).due("person(" + person + ", 5)", 0);
                run.due("person(" + person + ", 6)", NONE).due("person(" + person + ", 7)", 0);
                run.due("person(" + person + ", 8)", 0).due("person(" + person + ", 9)", 0);
            }
        }
    }

    private static void deedOverDeed() {
        Run run = Run.told("bank 1 1 1;bank 1 1 1;deed 0 10 20;deed 1 15 25;deed 0 17 17");
        int[][] due = {{9, NONE}, {10, 0}, {14, 0}, {15, 1}, {16, 1}, {17, 0}, {18, 1}, {25, 1}, {26, NONE}};
        for (int[] row : due) {
            run.due("second(" + row[0] + ", 0)", row[1]);
        }
        run.due("person(0, 9)", 6).due("person(1, 9)", 10).due("count(4)", 16);
    }

    private static void deedAtTheEnds() {
        Run run = Run.told("bank 1 1 1;bank 1 1 1;deed 0 0 0;deed 1 59 59");
        run.due("second(0, 0)", 0).due("second(1, 0)", NONE).due("second(58, 0)", NONE).due("second(59, 0)", 1);
        run.due("person(0, 9)", 1).due("person(1, 9)", 1).due("count(4)", 2);
        run.tell("deed 1 0 59").due("person(0, 9)", 0).due("person(1, 9)", 60).due("count(4)", 60);
        run.due("second(0, 0)", 1).due("second(59, 0)", 1);
    }

    /** "fog: SECONDS A .. B are CLOUDED, too; clear: none is" */
    private static void fogTooAndClear() {
        Run run = Run.told("fog 3 5;fog 5 6;fog 20 20");
        run.due("count(5)", 5).due("second(2, 1)", 0).due("second(3, 1)", 1).due("second(6, 1)", 1);
        run.due("second(7, 1)", 0).due("second(20, 1)", 1);
        run.tell("fog 7 7").due("count(5)", 6).due("second(3, 1)", 1);
        run.tell("clear").due("count(5)", 0).due("second(3, 1)", 0).due("second(7, 1)", 0);
        run.tell("clear").due("count(5)", 0);
        Run told = Run.told("bank 1 1 1;deed 0 4 9;fog 0 59").tell("clear");
        told.due("count(0)", 1).due("count(4)", 6).due("count(5)", 0);
    }

    private static void fogAtTheEnds() {
        Run run = Run.told("fog 0 0;fog 59 59").due("count(5)", 2);
        run.due("second(0, 1)", 1).due("second(1, 1)", 0).due("second(58, 1)", 0).due("second(59, 1)", 1);
        run.tell("fog 0 59").due("count(5)", 60).due("second(30, 1)", 1);
    }

    /** "top: all as at first" */
    private static void topAsAtFirst() {
        Run run = Run.told("bank 1 1 1;guide 2 2 2;deed 0 0 59;fog 0 59").tell("top");
        for (int what = 0; what <= 9; what++) {
            run.due("count(" + what + ")", 0);
        }
        run.due("second(0, 0)", NONE).due("second(59, 0)", NONE).due("second(0, 1)", 0).due("second(59, 1)", 0);
        run.due("person(0, 0)", UNKNOWN).due("person(1, 0)", UNKNOWN);
        // who comes then has nothing of who was there
        run.tell("climber 3 3 3;climber 4 4 4").due("person(0, 9)", 0).due("person(1, 9)", 0);
        run.due("person(0, 0)", 0).due("person(1, 1)", 4).due("second(0, 0)", NONE);
        run.tell("top;mourner 6 6 6").due("count(0)", 1).due("person(0, 0)", 2).due("person(1, 0)", UNKNOWN);
        Run.told("top").due("count(0)", 0);
    }

    /** "CLAUSES are done in their order." */
    private static void inTheirOrder() {
        Run.told("fog 1 5;clear;fog 2 2").due("count(5)", 1).due("second(2, 1)", 1).due("second(1, 1)", 0);
        Run.told("fog 1 5;clear").due("count(5)", 0);
        Run.told("clear;fog 1 5").due("count(5)", 5);
        Run.told("bank 1 1 1;deed 0 0 9;fog 1 1;top").due("count(0)", 0).due("count(4)", 0).due("count(5)", 0);
        Run run = Run.told("bank 1 1 1;deed 0 0 9;top;guide 7 1 1;bank 1 1 1;deed 1 9 9");
        run.due("count(0)", 2).due("person(0, 0)", 1).due("count(4)", 1).due("second(9, 0)", 1);
    }

    /** "what earlier texts told stays" */
    private static void earlierTextsStay() {
        Run run = Run.told("climber 5 3 4;deed 0 0 9;fog 3 3");
        run.tell("guide 7 2 1;deed 1 5 14;fog 4 4").due("count(0)", 2).due("count(5)", 2);
        run.due("person(0, 9)", 5).due("person(1, 9)", 10).due("person(0, 1)", 5).due("person(1, 1)", 7);
        run.tell("clear").due("count(0)", 2).due("person(0, 9)", 5).due("person(1, 9)", 10);
    }

    /** "NOT: it has a FAULT.": not even the CLAUSES ahead of it are done */
    private static void faultDoesNothing() {
        String[] faulty = {"top;hut", "clear;", "guide 1 1 1;fog 60 60", "deed 1 0 59;.", "fog 0 59;fog 1", "top top"};
        for (String text : faulty) {
            Run run = Run.told(TWO + ";fog 3 4").then("start(0, 7)", "clock(2)", "rope(1, 1)", "sell(40, 1)");
            run.then("seen(0, 0)", "keep(1)").put(text);
            Check.holds("a FAULT of " + text, run.call("fault()") >= 0);
            run.due("top()", NOT).due("count(9)", text.length()).due("count(0)", 2).due("count(4)", 11);
            run.due("count(5)", 2).due("count(1)", 2).due("count(2)", 1).due("count(6)", 2).due("count(7)", 1);
            run.due("count(8)", 4).due("person(0, 4)", 7).due("second(40, 0)", 1).due("second(19, 0)", 0);
            run.due("undo()", 3).due("second(40, 0)", NONE).due("back(1)", 2).due("second(40, 0)", 1);
            run.due("back(0)", NOT);
        }
    }

    /** fault() changes nothing, whatever it answers */
    private static void faultIsOnlyAsked() {
        for (String text : new String[] {"top", "clear", "top;hut", "", "guide 1 1 1;deed 2 0 59"}) {
            Run run = Run.told(TWO + ";fog 3 4").then("start(0, 7)", "clock(2)", "seen(1, 5)", "keep(0)");
            long place = run.put(text).call("fault()");
            run.due("fault()", place).due("count(9)", text.length()).due("count(0)", 2).due("count(4)", 10);
            run.due("count(5)", 2).due("count(1)", 2).due("count(7)", 1).due("count(8)", 2).due("back(0)", 2);
        }
    }

    /** "Behind them SECONDS are whose they were told to be" */
    private static void ownersAsTold() {
        Run sold = Run.told(TWO).then("sell(10, 1)", "sell(19, -1)", "sell(30, 0)").tell("clear");
        sold.due("second(10, 0)", 0).due("second(19, 0)", 0).due("second(30, 0)", NONE).due("person(0, 9)", 10);
        Run halved = Run.told(TWO).then("halve(0, 1)").due("person(1, 9)", 5).tell("clear");
        halved.due("person(0, 9)", 10).due("person(1, 9)", 0).due("second(11, 0)", 0);
        // a deed over what was sold, the rest as it was told
        Run told = Run.told(TWO).then("sell(10, 1)", "sell(11, 1)").tell("deed 1 11 11");
        told.due("second(10, 0)", 0).due("second(11, 0)", 1).due("person(1, 9)", 1);
        Run back = Run.told(TWO).then("sell(10, 1)", "keep(0)", "sell(10, -1)", "back(0)").tell("fog 0 0");
        back.due("second(10, 0)", 0).due("person(0, 9)", 10);
    }

    /** "nobody has started" */
    private static void nobodyHasStarted() {
        Run run = Run.told(TWO).then("start(0, 0)", "start(1, 59)").due("count(2)", 3).tell("clear");
        run.due("count(2)", 0).due("person(0, 4)", NONE).due("person(1, 4)", NONE).due("person(0, 6)", NONE);
        run.due("stays(0)", NOT).due("stays(1)", NOT).due("second(5, 2)", 0);
    }

    /** "THE CLOCK is right" */
    private static void clockIsRight() {
        Run.told(TWO).then("clock(9)").tell("clear").due("count(1)", 0).due("start(0, 0)", 5).due("clock(0)", 0);
        Run.anew().then("clock(1)").tell("clear").due("count(1)", 0);
    }

    /** "nobody has a ROPE" */
    private static void nobodyHasRope() {
        Run run = Run.told(TWO).then("rope(0, 1)", "rope(1, 1)").due("count(6)", 3).tell("clear");
        run.due("count(6)", 0).due("person(0, 5)", 0).due("person(1, 5)", 0).due("rope(1, 0)", 0);
    }

    /** "nothing is SEEN" */
    private static void nothingIsSeen() {
        Run run = Run.told(TWO).then("seen(0, 9)", "seen(1, 9)").due("clocks()", 0).tell("clear");
        run.due("count(7)", 0).due("clocks()", 1023).due("forget()", 0).due("seen(0, 0)", 1);
    }

    /** "nothing is kept" */
    private static void nothingIsKept() {
        Run run = Run.told(TWO).then("keep(0)", "keep(1)").tell("clear").due("back(0)", NOT).due("back(1)", NOT);
        run.due("keep(1)", 0).due("back(0)", NOT).due("back(1)", 0);
        Run.anew().then("keep(0)").tell("clear").due("back(0)", NOT);
    }

    /** "or can be undone" */
    private static void nothingCanBeUndone() {
        Run run = Run.told(TWO).then("clock(1)", "clock(2)").due("count(8)", 2).tell("clear");
        run.due("count(8)", 0).due("undo()", NOT).due("count(1)", 0).due("clock(3)", 0).due("undo()", 0);
        run.due("undo()", NOT);
    }

    /** "it is empty then: how many there were" */
    private static void howManyClauses() {
        String text = "top";
        for (int clauses = 1; clauses <= 14; clauses++) {
            Run.anew().put(text).due("top()", clauses).due("count(9)", 0).due("top()", NOT).due("erase()", 0);
            text = text + ";top";
        }
        Run.anew().put(text).due("top()", NOT).due("count(9)", 59);
        // one text behind another: each is counted by itself
        Run.told("top;clear").put("clear").due("top()", 1).put("clear;clear;top").due("top()", 3);
    }

    /** "THE TEXT is empty: how many letters it had." */
    private static void eraseIsOfTheTextAlone() {
        Run run = Sample.rich().due("erase()", 11).due("count(9)", 0).due("erase()", 0).put("fog 3 4;hut");
        Sample.isStill("erased and written again", Sample.Sort.RICH, run);
        Run full = Run.anew().put("x".repeat(160)).due("erase()", 160).due("write(255)", 1).due("erase()", 1);
        full.due("count(9)", 0);
    }

    /** "SEEN is nothing: how many there were." */
    private static void forgetIsOfTheSeenAlone() {
        Run run = Sample.rich().due("forget()", 2).due("forget()", 0).due("seen(0, 18)", 1).due("seen(2, 0)", 2);
        Sample.isStill("forgotten and seen again", Sample.Sort.RICH, run);
    }

    /** kept again as it is kept already: all is as it was */
    private static void keepIsOfTheKeptAlone() {
        Run run = Sample.of(Sample.Sort.FULL).due("keep(0)", 3).due("back(1)", 3).due("count(7)", 6).due("count(9)", 160);
        run.due("back(0)", 3).due("person(2, 4)", 0).due("person(5, 4)", 59).due("count(6)", 32).due("count(8)", 0);
    }
}
