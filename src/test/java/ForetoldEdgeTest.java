/** Terms, 3: BEST, ORDER, REACHED, FREE, ROPES, TOGETHER at their edges. */
final class ForetoldEdgeTest {
    private static final int NONE = SummitTime.NONE;
    private static final int OUTSIDE = SummitTime.OUTSIDE;
    private static final int UNKNOWN = SummitTime.UNKNOWN;
    private static final long ALL = (1L << 60) - 1;
    private static final String SIX = "climber 1 1 1;climber 1 1 1;climber 1 1 1;climber 1 1 1;climber 1 1 1;climber 1 1 1";

    private ForetoldEdgeTest() {
    }

    public static void main(String[] args) {
        bestFirstAndLast();
        bestForAllOfStay();
        bestOthersAsTheyGo();
        bestWhateverHisStart();
        bestWithRope();
        bestOfTheSlowest();
        orderOfNobody();
        orderOfOne();
        orderOfSix();
        orderStartsAt59();
        orderOnlyWhatFits();
        orderByRights();
        orderNobodyElseGoes();
        orderOfSeveralTheFirst();
        orderByClockAndRope();
        orderSets();
        reachedFromTheQuickest();
        reachedWhoeverGoes();
        freeOfEachSort();
        freeAtTheEnds();
        freeWhateverTheCrowd();
        ropesAtTheEdge();
        ropesFewest();
        ropesWhateverThereAre();
        together();
        nothingChanges();
        Check.finish();
    }

    private static long bits(int from, int to) {
        long row = 0;
        for (int second = from; second <= to; second++) {
            row |= 1L << second;
        }
        return row;
    }

    // ---- BEST

    /** "the START (0 .. 59)"; "of several the first" */
    private static void bestFirstAndLast() {
        Run run = Run.told("climber 1 1 0;climber 1 1 5;deed 1 0 59").due("best(0, 0)", 0).due("best(0, 1)", 5);
        run.then("sell(59, -1)").due("best(0, 0)", 58).due("best(0, 1)", 0);
        run.then("sell(0, -1)").due("best(0, 0)", 58).then("sell(1, 0)").due("best(0, 0)", 0).due("best(0, 1)", 0);
        run.then("sell(1, 1)", "sell(30, 0)", "sell(40, -1)").due("best(0, 0)", 29);
        run.due("best(1, 0)", 0).due("best(1, 1)", 0);
        run.due("best(0, 2)", OUTSIDE).due("best(0, -1)", OUTSIDE).due("best(2, 0)", UNKNOWN);
        run.due("best(2, 2)", UNKNOWN).due("best(-1, -1)", UNKNOWN);
    }

    /** "by which he stands for all of STAY" */
    private static void bestForAllOfStay() {
        Run run = Run.told("climber 1 6 0;climber 1 1 5;deed 1 0 59").due("best(0, 0)", 0).due("best(0, 1)", 30);
        // the START 53 is the last by which he stands for 6; later he would be fined less, for fewer
        run.then("sell(59, -1)").due("best(0, 0)", 53).due("best(0, 1)", 25);
        run.then("clock(1)").due("best(0, 0)", 52).then("clock(9)").due("best(0, 0)", 44).due("best(0, 1)", 25);
    }

    /** "all others going as they do" */
    private static void bestOthersAsTheyGo() {
        Run run = Run.told("climber 1 6 0;climber 1 6 0;climber 1 1 0;climber 1 1 0");
        run.due("best(2, 0)", 0).due("best(2, 1)", 0);
        run.then("start(0, 0)").due("best(2, 0)", 0).then("start(1, 0)").due("best(2, 0)", 6).due("best(2, 1)", 0);
        run.then("start(1, 2)").due("best(2, 0)", 0).then("start(1, 0)", "clock(4)").due("best(2, 0)", 6);
        // those of greater numbers do not crowd him
        run.then("start(2, 0)", "start(3, 0)").due("best(0, 0)", 0).due("best(1, 0)", 0).due("best(3, 0)", 6);
    }

    private static void bestWhateverHisStart() {
        Run run = Run.told("climber 1 1 0;climber 1 1 5;deed 1 0 29").then("start(0, 50)").due("best(0, 0)", 29);
        run.then("start(0, 3)").due("best(0, 0)", 29).due("best(0, 1)", 0).due("person(0, 4)", 3);
        run.then("stays(0)").due("best(0, 0)", 29).due("person(0, 4)", NONE).due("person(0, 8)", 0);
    }

    private static void bestWithRope() {
        Run run = Run.told("climber 1 1 0;climber 1 1 1;climber 1 1 2;deed 1 30 59;deed 2 0 29");
        run.due("best(0, 0)", 29).due("best(0, 1)", 1).then("rope(0, 1)").due("best(0, 0)", 29);
        run.due("best(0, 1)", 0).then("sell(1, 1)").due("best(0, 0)", 0);
        Run alike = Run.told("climber 1 1 0;climber 1 1 2;climber 1 1 3;deed 1 30 59;deed 2 0 29");
        alike.due("best(0, 0)", 29).due("best(0, 1)", 2).then("rope(0, 1)").due("best(0, 0)", 0).due("best(0, 1)", 1);
    }

    /** even the slowest, THE CLOCK set on by 9, can stand for all of STAY: from 0 to 25 */
    private static void bestOfTheSlowest() {
        Run run = Run.told("climber 20 6 0;bank 1 1 20;deed 1 0 59").then("clock(9)").due("best(0, 0)", 0);
        run.due("best(0, 1)", 240);
        for (int second = 54; second <= 59; second++) {
            run.then("sell(" + second + ", 0)");
        }
        run.due("best(0, 0)", 25).due("best(0, 1)", 0);
    }

    // ---- ORDER

    /** "(of nobody 0)"; "NONE: there are not so many" */
    private static void orderOfNobody() {
        for (Run run : new Run[] {Run.anew(), Run.told(SIX), Run.told(SIX).then("clock(9)")}) {
            run.due("order(0, 0, 0)", 0).due("order(0, 59, 0)", 0);
            for (int what = 1; what <= 6; what++) {
                run.due("order(0, 0, " + what + ")", NONE).due("order(0, 59, " + what + ")", NONE);
            }
            run.due("order(0, 60, 0)", OUTSIDE).due("order(0, -1, 0)", OUTSIDE);
            run.due("order(0, 0, 7)", OUTSIDE).due("order(0, 0, -1)", OUTSIDE);
        }
    }

    private static void orderOfOne() {
        Run run = Run.told("climber 1 2 0;climber 3 1 4;deed 1 0 59").due("order(1, 0, 0)", 8);
        run.due("order(1, 0, 1)", 0).due("order(1, 0, 2)", NONE).due("order(1, 0, 6)", NONE);
        run.due("order(2, 0, 1)", 1).due("order(2, 0, 0)", 0);
        run.due("order(1, 57, 0)", 8).due("order(1, 58, 0)", 4).due("order(1, 59, 0)", 0).due("order(1, 59, 1)", 0);
        run.due("order(1, 60, 0)", OUTSIDE).due("order(1, -1, 0)", OUTSIDE);
        run.due("order(1, 0, 7)", OUTSIDE).due("order(1, 0, -1)", OUTSIDE);
    }

    private static void orderOfSix() {
        // each stands one SECOND behind his START; the next one starts in the one behind that
        Run run = Run.told(SIX).due("order(63, 0, 0)", 0);
        for (int place = 1; place <= 6; place++) {
            run.due("order(63, 0, " + place + ")", place - 1);
        }
        run.due("order(63, 49, 0)", 0).due("order(63, 49, 6)", 5).due("order(63, 50, 0)", NONE);
        run.due("order(63, 50, 1)", NONE).due("order(63, 50, 6)", NONE);
        // they stand in 1, 3 .. 11: one's own SECOND each, in turned row
        for (int person = 0; person < 6; person++) {
            run.then("sell(" + (11 - 2 * person) + ", " + person + ")");
        }
        run.due("order(63, 0, 0)", 0);
        for (int place = 1; place <= 6; place++) {
            run.due("order(63, 0, " + place + ")", 6 - place);
        }
        run.due("order(62, 0, 6)", NONE).due("order(62, 0, 5)", 1);
    }

    /** "if all STARTS are 59 at most" */
    private static void orderStartsAt59() {
        Run run = Run.told("climber 1 1 0;climber 1 1 0;climber 1 1 3;deed 2 0 59");
        run.due("order(3, 57, 0)", 3).due("order(3, 57, 2)", 1).due("order(3, 58, 0)", NONE);
        run.due("order(3, 58, 1)", NONE).due("order(3, 59, 0)", NONE).due("order(1, 59, 0)", 0);
        run.due("order(7, 55, 0)", 3).due("order(7, 55, 1)", 0).due("order(7, 55, 2)", 2).due("order(7, 55, 3)", 1);
        run.due("order(7, 56, 0)", NONE);
    }

    /** the row that is fined least of those that can go, not one that comes too late */
    private static void orderOnlyWhatFits() {
        Run run = Run.told("climber 20 6 0;climber 1 1 0;bank 1 1 5;deed 2 20 59");
        // the slow one first would be too late for the quick one
        run.due("order(3, 40, 1)", 1).due("order(3, 40, 2)", 0).due("order(3, 57, 0)", 10);
        run.due("order(3, 57, 1)", 1).due("order(3, 58, 0)", NONE);
        // the slow one first: 20 .. 25, then the quick one at 27: 70; else 1, then 22 .. 27: 60
        run.due("order(3, 0, 0)", 60).due("order(3, 0, 1)", 1);
        run.then("sell(27, -1)").due("order(3, 0, 0)", 50).due("order(3, 0, 1)", 1);
    }

    /** "(by rights: his START, WALK, THE CLOCK, STAY)": also behind SECOND 59 */
    private static void orderByRights() {
        Run run = Run.told("climber 20 6 0;climber 20 1 0;climber 1 1 0");
        // at 33 he is there in 53 .. 58 and the next one starts at 59; at 34 it would be 60
        run.due("order(5, 33, 1)", 0).due("order(5, 34, 1)", 2);
        // at 38 he is there in 58 alone; at 39 in 59: the next would start at 60
        run.due("order(6, 38, 1)", 1).due("order(6, 39, 1)", 2);
        // the slowest can only be last: the others take 21 and 2 SECONDS
        run.due("order(7, 36, 0)", 0).due("order(7, 36, 1)", 1).due("order(7, 36, 2)", 2).due("order(7, 36, 3)", 0);
        run.due("order(7, 37, 0)", NONE).due("order(7, 37, 1)", NONE);
        // a GUIDE by his WALK
        Run guide = Run.told("guide 20 1 0;climber 1 1 0").due("order(3, 39, 1)", 0).due("order(3, 40, 1)", 1);
        guide.due("order(3, 57, 1)", 1).due("order(3, 58, 1)", NONE);
    }

    /** "nobody else goes" */
    private static void orderNobodyElseGoes() {
        Run run = Run.told(SIX);
        for (int person = 0; person < 5; person++) {
            run.then("start(" + person + ", 0)");
        }
        run.due("order(32, 0, 0)", 0).due("order(48, 0, 0)", 0).due("order(63, 0, 0)", 0);
        // nor as he was told to start himself
        run.then("start(5, 0)").due("person(5, 8)", 1).due("order(32, 0, 0)", 0).due("person(5, 4)", 0);
    }

    /** "of several the first (by numbers)" */
    private static void orderOfSeveralTheFirst() {
        Run run = Run.told(SIX).then("sell(1, 5)", "sell(3, 5)");
        // 5 in the first or the second place is fined nothing there: 1 in all
        run.due("order(63, 0, 0)", 1);
        int[] due = {0, 5, 1, 2, 3, 4};
        for (int place = 1; place <= 6; place++) {
            run.due("order(63, 0, " + place + ")", due[place - 1]);
        }
        run.due("order(42, 0, 1)", 1).due("order(42, 0, 2)", 5).due("order(42, 0, 3)", 3);
    }

    private static void orderByClockAndRope() {
        Run run = Run.told("climber 1 1 0;climber 1 1 0;climber 1 1 3;deed 2 1 1").due("order(3, 0, 0)", 3);
        run.due("order(3, 0, 1)", 0).then("rope(1, 1)").due("order(3, 0, 0)", 1).due("order(3, 0, 1)", 1);
        run.then("rope(0, 1)").due("order(3, 0, 0)", 1).due("order(3, 0, 1)", 0);
        run.then("clock(1)").due("order(3, 0, 0)", 0).due("order(3, 56, 0)", 0).due("order(3, 57, 0)", NONE);
        run.then("clock(9)").due("order(3, 48, 0)", 0).due("order(3, 49, 0)", NONE);
        Run cloud = Run.told("climber 1 1 0;mourner 1 1 0;climber 1 1 3;deed 2 0 59;fog 3 3");
        cloud.due("order(3, 0, 0)", 3).due("order(3, 50, 0)", 3).due("order(2, 48, 0)", 3).due("order(2, 49, 0)", 0);
    }

    /** "a SET with such": UNKNOWN, ahead of OUTSIDE */
    private static void orderSets() {
        Run run = Run.told("climber 1 1 0;climber 1 1 0");
        int[] unknown = {4, 5, 7, 8, 32, 64, 128, 1 << 30, Integer.MIN_VALUE, Integer.MAX_VALUE, -1, -2, -4};
        for (int set : unknown) {
            run.due("order(" + set + ", 0, 0)", UNKNOWN).due("order(" + set + ", 60, 0)", UNKNOWN);
            run.due("order(" + set + ", 0, 7)", UNKNOWN).due("order(" + set + ", -1, -1)", UNKNOWN);
        }
        Run.told(SIX).due("order(63, 0, 0)", 0).due("order(64, 0, 0)", UNKNOWN).due("order(127, 0, 0)", UNKNOWN);
    }

    // ---- REACHED, FREE

    private static void reachedFromTheQuickest() {
        for (int pace = 1; pace <= 20; pace++) {
            for (int k = 0; k <= 9; k += 3) {
                Run.told("climber " + pace + " 1 0").then("clock(" + k + ")").due("reached()", bits(pace + k, 59));
                Run guide = Run.told("guide " + pace + " 6 0;bank 20 6 0").then("clock(" + k + ")");
                guide.due("reached()", bits(Math.max(1, pace - 1) + k, 59));
            }
        }
        Run.anew().due("reached()", 0).then("clock(9)").due("reached()", 0);
    }

    private static void reachedWhoeverGoes() {
        Run run = Run.told("climber 9 2 0;climber 4 1 0;fog 0 59;deed 0 0 59").due("reached()", bits(4, 59));
        run.then("start(0, 30)", "start(1, 59)", "rope(0, 1)").due("reached()", bits(4, 59));
        run.due("second(3, 2)", 0).then("stays(1)").due("reached()", bits(4, 59));
    }

    private static void freeOfEachSort() {
        Run run = Run.told("climber 1 1 4;mourner 1 1 0;bank 1 1 1;guide 1 1 2;deed 0 0 9;deed 1 10 19;deed 2 48 51;"
            + "deed 3 20 29;fog 5 5;fog 49 49");
        long fog = bits(5, 5) | bits(49, 49);
        run.due("free(0)", ALL & ~bits(48, 51) & ~bits(20, 29) | fog);
        run.due("free(1)", ALL & ~bits(0, 9) & ~bits(48, 49) & ~bits(20, 29) | fog);
        run.due("free(2)", ALL & ~bits(0, 9) & ~bits(20, 29) | fog);
        run.due("free(3)", ALL & ~bits(0, 9) & ~bits(48, 51) | fog);
        run.due("free(4)", UNKNOWN).due("free(-1)", UNKNOWN).due("free(6)", UNKNOWN);
        run.then("sell(50, 0)", "sell(30, 2)", "sell(0, -1)");
        run.due("free(0)", ALL & ~bits(48, 49) & ~bits(51, 51) & ~bits(20, 30) | fog);
        run.due("free(1)", ALL & ~bits(1, 9) & ~bits(48, 49) & ~bits(20, 30) | fog);
    }

    private static void freeAtTheEnds() {
        Run run = Run.told("climber 1 1 1;climber 1 1 1;mourner 1 1 1;deed 0 0 59");
        run.due("free(0)", ALL).due("free(1)", 0).due("free(2)", bits(50, 59));
        run.then("sell(0, -1)", "sell(59, 1)").due("free(0)", ALL & ~bits(59, 59));
        run.due("free(1)", bits(0, 0) | bits(59, 59)).due("free(2)", bits(0, 0) | bits(50, 59));
        run.tell("fog 59 59").due("free(0)", ALL).due("free(1)", bits(59, 59)).tell("fog 0 59").due("free(1)", ALL);
        Run.told("climber 1 1 1").due("free(0)", ALL);
    }

    /** COST alone: to be one too many, a ROPE, where he stands do not come into it */
    private static void freeWhateverTheCrowd() {
        Run run = Run.told(SIX).then("start(0, 0)", "start(1, 0)", "start(2, 0)").due("person(2, 8)", 1);
        run.due("free(2)", ALL).then("sell(9, 0)", "rope(2, 1)").due("free(2)", ALL & ~bits(9, 9));
    }

    // ---- ROPES, TOGETHER

    /** "so that no FINE is above n": n and one above; half, cut */
    private static void ropesAtTheEdge() {
        for (int fine = 0; fine <= 20; fine++) {
            Run run = Run.told("climber 1 1 0;climber 1 1 " + fine + ";deed 1 1 1").then("start(0, 0)");
            for (int n = 0; n <= 21; n++) {
                run.due("ropes(" + n + ")", fine <= n ? 0 : fine / 2 <= n ? 1 : NONE);
            }
        }
        Run run = Run.told("climber 1 5 0;bank 1 1 20;bank 1 1 10;deed 1 1 4;deed 2 5 5").then("start(0, 0)");
        run.due("person(0, 8)", 180).due("ropes(99)", 1).due("ropes(90)", 1).due("ropes(89)", NONE);
        run.then("sell(5, 1)").due("person(0, 8)", 200).due("ropes(99)", NONE);
        run.due("ropes(100)", OUTSIDE).due("ropes(-1)", OUTSIDE);
        // 199 is cut to 99
        Run odd = Run.told("climber 1 6 0;bank 1 1 20;climber 1 1 19;bank 1 1 10;deed 1 1 4;deed 2 5 5;deed 3 6 6");
        odd.then("start(0, 0)").due("person(0, 8)", 199).due("ropes(99)", 1).due("ropes(98)", NONE);
    }

    /** "the fewest PEOPLE (bits; of as few the least) who need a ROPE" */
    private static void ropesFewest() {
        Run run = Run.told("climber 1 1 4;climber 1 2 0;climber 1 3 0;climber 1 4 0;climber 1 5 0;climber 1 6 0;deed 0 0 59");
        int[] starts = {0, 2, 5, 9, 14, 20};
        for (int person = 0; person < 6; person++) {
            run.then("start(" + person + ", " + starts[person] + ")");
        }
        // the fines are 0, 8, 12, 16, 20, 24
        run.due("count(3)", 80).due("ropes(24)", 0).due("ropes(23)", 32).due("ropes(20)", 32).due("ropes(19)", 48);
        run.due("ropes(16)", 48).due("ropes(15)", 56).due("ropes(12)", 56).due("ropes(11)", NONE);
        run.then("stays(5)", "stays(4)").due("ropes(11)", 12).due("ropes(8)", 12).due("ropes(7)", NONE);
        run.then("stays(3)", "stays(2)").due("ropes(7)", 2).due("ropes(4)", 2).due("ropes(3)", NONE);
        run.then("stays(1)", "stays(0)").due("ropes(0)", 0);
        Run.anew().due("ropes(0)", 0).due("ropes(99)", 0).due("ropes(100)", OUTSIDE).due("ropes(-1)", OUTSIDE);
        // one who is fined only for want of room
        Run crowd = Run.told(SIX).then("start(0, 0)", "start(1, 0)", "start(2, 0)", "start(5, 0)");
        crowd.due("ropes(0)", 36).due("ropes(1)", 0);
    }

    /** "(ROPES there are now do not matter.)" */
    private static void ropesWhateverThereAre() {
        Run run = Run.told("climber 1 1 0;climber 1 1 9;deed 1 0 59").then("start(0, 0)").due("ropes(8)", 1);
        run.then("rope(0, 1)").due("ropes(8)", 1).due("ropes(9)", 0).due("ropes(3)", NONE).due("count(6)", 1);
        run.then("rope(1, 1)").due("ropes(4)", 1).due("count(6)", 3);
    }

    private static void together() {
        Run run = Run.told("climber 1 6 0;climber 1 6 0;climber 1 1 0").due("together(0, 1)", 0);
        run.then("start(0, 20)").due("together(0, 1)", 0).due("together(1, 0)", 0);
        for (int start = 10; start <= 30; start++) {
            run.then("start(1, " + start + ")").due("together(0, 1)", Math.max(0, 6 - Math.abs(start - 20)));
        }
        run.then("start(0, 58)", "start(1, 58)").due("together(0, 1)", 1).then("start(1, 59)").due("together(0, 1)", 0);
        run.then("start(0, 59)").due("together(0, 1)", 0).then("start(0, 54)", "start(1, 55)").due("together(1, 0)", 4);
        run.due("together(0, 0)", UNKNOWN).due("together(2, 2)", UNKNOWN).due("together(0, 3)", UNKNOWN);
        run.due("together(3, 0)", UNKNOWN).due("together(3, 3)", UNKNOWN).due("together(-1, 0)", UNKNOWN);
        run.due("together(0, -1)", UNKNOWN).due("together(-1, -1)", UNKNOWN);
    }

    /** "FORETOLD (nothing changes)." */
    private static void nothingChanges() {
        String[] asked = {"best(1, 0)", "best(1, 1)", "order(7, 0, 0)", "order(7, 0, 3)", "order(7, 59, 1)", "reached()",
            "free(1)", "ropes(0)", "ropes(99)", "together(0, 1)", "clocks()", "clear(0, 1, 5, 0)", "fault()",
            "person(0, 8)", "second(9, 2)", "as(0, 0)", "count(3)"};
        for (String call : asked) {
            Run run = Sample.rich();
            long answer = run.call(call);
            run.due(call, answer);
            Sample.isStill("behind " + call, Sample.Sort.RICH, run);
        }
    }
}
