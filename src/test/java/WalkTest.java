/** Terms, 2: WALK, who stands when, what a SECOND costs, room for two, a ROPE, halves, what is sold. */
final class WalkTest {
    private static final int NONE = SummitTime.NONE;
    private static final int NOT = SummitTime.NOT;
    private static final int OUTSIDE = SummitTime.OUTSIDE;
    private static final int UNKNOWN = SummitTime.UNKNOWN;
    private static final String[] KINDS = {"climber", "guide", "mourner", "bank"};

    private WalkTest() {
    }

    public static void main(String[] args) {
        walkOfEachKind();
        clockLater();
        standsForStay();
        notBehind59();
        startInPlaceOfAnother();
        costsNothing();
        mournerFrom50();
        bankTwice();
        roomForTwo();
        lesserNumbersAlone();
        fourthIsFinedOne();
        crowdFree();
        crowdSecondBySecond();
        crowdAt59();
        ropeHalfCut();
        ropeOfAllTogether();
        whoDoesNotGo();
        halveEachOther();
        halveFewerThanTwo();
        halveAll();
        sold();
        kindsOverOneAnother();
        Check.finish();
    }

    /** "WALK is PACE, of a GUIDE 1 less (1 at least)." */
    private static void walkOfEachKind() {
        for (int kind = 0; kind < 4; kind++) {
            for (int pace = 1; pace <= 20; pace++) {
                int walk = kind != 1 ? pace : pace == 1 ? 1 : pace - 1;
                Run run = Run.told(KINDS[kind] + " " + pace + " 1 0");
                run.due("person(0, 1)", pace).due("as(0, 0)", walk).due("start(0, 0)", walk);
                run.due("person(0, 6)", walk).due("second(" + walk + ", 2)", 1);
                run.due("second(" + (walk - 1) + ", 2)", 0).due("second(" + (walk + 1) + ", 2)", 0);
            }
        }
    }

    /** "as many later yet as THE CLOCK is set on (0 .. 9)" */
    private static void clockLater() {
        for (int k = 0; k <= 9; k++) {
            Run run = Run.told("climber 5 2 0;guide 1 1 0").then("start(0, 3)").due("clock(" + k + ")", 0);
            run.due("count(1)", k).due("person(0, 6)", 8 + k).due("person(0, 7)", 2).due("person(0, 4)", 3);
            run.due("start(1, 0)", 1 + k).due("person(1, 6)", 1 + k).due("as(0, 0)", 5);
            run.due("clock(0)", k).due("person(0, 6)", 8).due("person(1, 6)", 1);
        }
        // in all, not besides
        Run.told("climber 5 2 0").then("clock(9)").due("clock(9)", 9).due("start(0, 0)", 14).due("count(1)", 9);
        Run.told("climber 20 6 0").then("clock(9)").due("start(0, 59)", 88).due("person(0, 6)", NONE);
    }

    /** "for STAY SECONDS" */
    private static void standsForStay() {
        for (int stay = 1; stay <= 6; stay++) {
            Run run = Run.told("climber 4 " + stay + " 0").then("start(0, 0)").due("person(0, 7)", stay);
            for (int second = 0; second <= 12; second++) {
                run.due("second(" + second + ", 2)", second >= 4 && second < 4 + stay ? 1 : 0);
            }
        }
    }

    /** "but not behind SECOND 59" */
    private static void notBehind59() {
        for (int stay = 1; stay <= 6; stay++) {
            Run run = Run.told("climber 1 " + stay + " 0");
            for (int start = 50; start <= 59; start++) {
                int first = start + 1;
                int stood = Math.max(0, Math.min(stay, 60 - first));
                run.due("start(0, " + start + ")", first).due("person(0, 7)", stood);
                run.due("person(0, 6)", stood == 0 ? NONE : first).due("person(0, 4)", start);
                run.due("second(59, 2)", stood > 0 && first + stay > 59 ? 1 : 0).due("count(2)", 1);
                // nor does he come round to the first SECONDS
                run.due("second(0, 2)", 0).due("second(1, 2)", 0);
            }
        }
        Run fined = Run.told("climber 1 6 0;climber 1 1 3;deed 1 0 59");
        fined.due("start(0, 52)", 53).due("person(0, 8)", 18).due("start(0, 54)", 55).due("person(0, 8)", 15);
        fined.due("start(0, 58)", 59).due("person(0, 8)", 3).due("start(0, 59)", 60).due("person(0, 8)", 0);
        fined.then("start(0, 58)").due("clock(1)", 0).due("person(0, 8)", 0).due("person(0, 7)", 0);
        fined.due("person(0, 6)", NONE).due("clock(0)", 1).due("person(0, 6)", 59);
    }

    /** "One STARTS at a SECOND (in place of what was told)" */
    private static void startInPlaceOfAnother() {
        Run run = Run.told("climber 1 2 0").due("start(0, 0)", 1).due("start(0, 59)", 60).due("person(0, 4)", 59);
        run.due("start(0, 9)", 10).due("second(1, 2)", 0).due("second(10, 2)", 1).due("person(0, 7)", 2);
    }

    /** "nothing, if it is CLOUDED, his, or nobody's" .. "else RENT of whose it is" */
    private static void costsNothing() {
        Run run = Run.told("climber 1 1 7;climber 1 1 20;climber 1 1 0;deed 0 10 10;deed 1 11 13;deed 2 14 14;fog 12 12");
        int[][] due = {{9, 0}, {10, 0}, {11, 20}, {12, 0}, {13, 20}, {14, 0}, {15, 0}};
        for (int[] row : due) {
            run.then("start(0, " + (row[0] - 1) + ")").due("person(0, 8)", row[1]);
        }
        run.then("start(1, 9)").due("person(1, 8)", 7).then("start(1, 10)").due("person(1, 8)", 0);
        run.then("start(1, 13)").due("person(1, 8)", 0);
        Run six = Run.told("climber 1 6 0;climber 1 1 20;deed 1 1 6").then("start(0, 0)").due("person(0, 8)", 120);
        six.due("count(3)", 120);
    }

    /** "nothing of SECONDS from 50 on, if he is a MOURNER" */
    private static void mournerFrom50() {
        int[] fines = {5, 5, 0, 5};
        for (int kind = 0; kind < 4; kind++) {
            Run run = Run.told(KINDS[kind] + " 1 1 0;climber 1 1 5;deed 1 0 59");
            run.due("start(0, 48)", 49).due("person(0, 8)", 5);
            run.due("start(0, 49)", 50).due("person(0, 8)", fines[kind]);
            run.due("start(0, 58)", 59).due("person(0, 8)", fines[kind]);
        }
        Run over = Run.told("mourner 1 6 0;bank 1 1 5;deed 1 0 59").then("start(0, 46)");
        over.due("person(0, 6)", 47).due("person(0, 8)", 30).then("clock(2)").due("person(0, 8)", 10);
        // a MOURNER's own SECONDS cost others as anybody's do, from 50 on, too
        Run.told("climber 1 1 0;mourner 1 1 5;deed 1 50 59").then("start(0, 54)").due("person(0, 8)", 5);
    }

    /** "of a BANK twice that" */
    private static void bankTwice() {
        for (int kind = 0; kind < 4; kind++) {
            for (int rent = 0; rent <= 20; rent += 10) {
                int toll = kind == 3 ? 2 * rent : rent;
                Run run = Run.told("climber 1 1 0;" + KINDS[kind] + " 3 1 " + rent + ";deed 1 8 8");
                run.then("start(0, 7)").due("person(0, 8)", toll).due("as(1, 0)", 100 * toll + (kind == 1 ? 2 : 3));
            }
        }
        // the BANK itself pays what others pay
        Run.told("bank 1 1 9;climber 1 1 4;deed 1 8 8").then("start(0, 7)").due("person(0, 8)", 4);
    }

    /** "Two have room there" */
    private static void roomForTwo() {
        Run run = Run.told("climber 1 3 0;climber 1 3 0;climber 1 3 0");
        run.then("start(0, 9)", "start(1, 9)").due("person(0, 8)", 0).due("person(1, 8)", 0).due("count(3)", 0);
        run.then("start(2, 9)").due("person(0, 8)", 0).due("person(1, 8)", 0).due("person(2, 8)", 3);
        run.due("count(3)", 3).then("stays(1)").due("person(2, 8)", 0);
    }

    /** "in which two of lesser numbers do" */
    private static void lesserNumbersAlone() {
        Run run = Run.told("climber 1 1 0;climber 1 1 0;climber 1 1 0;climber 1 1 0");
        run.then("start(1, 9)", "start(2, 9)", "start(3, 9)", "start(0, 9)").due("second(10, 2)", 15);
        run.due("person(0, 8)", 0).due("person(1, 8)", 0).due("person(2, 8)", 1).due("person(3, 8)", 1);
        run.then("stays(0)").due("person(1, 8)", 0).due("person(2, 8)", 0).due("person(3, 8)", 1);
        run.then("stays(1)").due("person(3, 8)", 0);
    }

    /** "is besides fined 1 for it": 1, however many are ahead */
    private static void fourthIsFinedOne() {
        Run run = Run.told("climber 1 1 0;climber 1 1 0;climber 1 1 0;climber 1 1 0;climber 1 1 0;climber 1 1 0");
        int[] due = {0, 0, 1, 1, 1, 1};
        for (int person = 0; person < 6; person++) {
            run.then("start(" + person + ", 0)");
        }
        for (int person = 0; person < 6; person++) {
            run.due("person(" + person + ", 8)", due[person]);
        }
        run.due("count(3)", 4).due("second(1, 2)", 63);
    }

    /** "(CLOUDED or not)", on one's own SECONDS, nobody's, and for a MOURNER from 50 on, too */
    private static void crowdFree() {
        Run run = Run.told("climber 1 1 3;climber 1 1 0;mourner 1 1 0;deed 0 20 20;deed 2 30 30;deed 0 55 56;fog 20 20;"
            + "deed 0 40 40;fog 56 56");
        int[][] due = {{20, 1}, {30, 1}, {33, 1}, {40, 4}, {55, 1}, {56, 1}};
        for (int[] row : due) {
            for (int person = 0; person < 3; person++) {
                run.then("start(" + person + ", " + (row[0] - 1) + ")");
            }
            run.due("person(2, 8)", row[1]);
        }
    }

    private static void crowdSecondBySecond() {
        Run run = Run.told("climber 1 3 0;climber 1 3 0;climber 1 6 0;climber 1 6 0");
        // 0 stands in 10 .. 12, 1 in 12 .. 14, 2 in 10 .. 15: both are there in 12 alone
        run.then("start(0, 9)", "start(1, 11)", "start(2, 9)").due("person(2, 8)", 1);
        // never both
        run.then("start(1, 12)").due("person(2, 8)", 0);
        // 3 with 0 and 2 in 10 .. 12, with 1 and 2 in 13 .. 15
        run.then("start(3, 9)").due("person(3, 8)", 6);
    }

    private static void crowdAt59() {
        Run run = Run.told("climber 1 6 0;climber 1 6 0;climber 1 6 0").then("start(0, 58)", "start(1, 58)");
        run.then("start(2, 58)").due("person(2, 8)", 1).then("start(2, 57)").due("person(2, 8)", 1);
        run.then("start(0, 59)").due("person(2, 8)", 0).then("start(1, 59)", "start(2, 59)").due("person(2, 8)", 0);
    }

    /** "with a ROPE half of it, cut" */
    private static void ropeHalfCut() {
        for (int rent = 0; rent <= 20; rent++) {
            Run run = Run.told("climber 1 1 0;climber 1 1 " + rent + ";deed 1 1 1").then("start(0, 0)");
            run.due("person(0, 8)", rent).due("rope(0, 1)", 0).due("person(0, 8)", rent / 2);
            run.due("count(3)", rent / 2).due("rope(0, 0)", 1).due("person(0, 8)", rent);
        }
        // another one's ROPE does not help
        Run.told("climber 1 1 0;climber 1 1 9;deed 1 1 1").then("start(0, 0)", "rope(1, 1)").due("person(0, 8)", 9);
    }

    /** "FINE is all together": half of the sum, not the sum of halves */
    private static void ropeOfAllTogether() {
        Run two = Run.told("climber 1 2 0;climber 1 1 3;deed 1 1 2").then("start(0, 0)", "rope(0, 1)");
        two.due("person(0, 8)", 3);
        Run crowd = Run.told("climber 1 1 1;climber 1 1 1;climber 1 1 1;deed 0 1 1");
        crowd.then("start(0, 0)", "start(1, 0)", "start(2, 0)").due("person(2, 8)", 2);
        crowd.then("rope(2, 1)").due("person(2, 8)", 1).due("count(3)", 2);
        crowd.then("rope(1, 1)").due("person(1, 8)", 0).due("count(3)", 1).due("count(6)", 6);
    }

    private static void whoDoesNotGo() {
        Run run = Run.told("climber 1 6 0;climber 1 1 9;deed 1 0 59").due("person(0, 8)", 0).due("count(3)", 0);
        run.then("start(0, 0)").due("count(3)", 54).due("stays(0)", 0).due("person(0, 8)", 0).due("count(3)", 0);
        run.due("person(0, 4)", NONE).due("person(0, 6)", NONE).due("person(0, 7)", 0).due("count(2)", 0);
        run.then("start(0, 59)").due("count(2)", 1).due("stays(0)", 59).due("stays(0)", NOT);
    }

    /** "of one's SECONDS each other one, from the second one on" */
    private static void halveEachOther() {
        Run run = Run.told("climber 1 1 1;bank 1 1 1;bank 1 1 1;deed 0 0 0;deed 0 3 4;deed 0 30 30;deed 0 58 59;"
            + "deed 2 1 2;deed 1 5 5").due("halve(0, 1)", 3);
        int[][] due = {{0, 0}, {1, 2}, {2, 2}, {3, 1}, {4, 0}, {5, 1}, {6, NONE}, {30, 1}, {58, 0}, {59, 1}};
        for (int[] row : due) {
            run.due("second(" + row[0] + ", 0)", row[1]);
        }
        run.due("person(0, 9)", 3).due("person(1, 9)", 4).due("person(2, 9)", 2).due("count(4)", 9);
        // as they are now, what was sold too: 1's are 3, 5, 30, 59
        run.due("halve(1, 2)", 2).due("second(3, 0)", 1).due("second(5, 0)", 2).due("second(30, 0)", 1);
        run.due("second(59, 0)", 2);
    }

    /** "NOT: he has fewer than two." */
    private static void halveFewerThanTwo() {
        Run run = Run.told("climber 1 1 1;bank 1 1 1;deed 1 0 59").due("halve(0, 1)", NOT);
        run.then("sell(9, 0)").due("halve(0, 1)", NOT).due("person(0, 9)", 1).due("count(8)", 1);
        run.then("sell(59, 0)").due("halve(0, 1)", 1).due("second(9, 0)", 0).due("second(59, 0)", 1);
        run.due("halve(0, 1)", NOT).due("halve(0, 0)", UNKNOWN).due("count(8)", 3);
        Run three = Run.told("climber 1 1 1;bank 1 1 1;deed 0 0 2").due("halve(0, 1)", 1).due("second(1, 0)", 1);
        three.due("second(2, 0)", 0);
    }

    private static void halveAll() {
        Run run = Run.told("climber 1 1 1;bank 1 1 1;deed 0 0 59").due("halve(0, 1)", 30);
        for (int second = 0; second <= 59; second++) {
            run.due("second(" + second + ", 0)", second % 2);
        }
        run.due("halve(0, 1)", 15).due("second(0, 0)", 0).due("second(2, 0)", 1).due("second(58, 0)", 1);
        run.due("person(1, 9)", 45);
    }

    /** "a SECOND is another one's then (nobody's, too)" */
    private static void sold() {
        for (int second : new int[] {0, 1, 31, 32, 58, 59}) {
            Run run = Run.told("climber 1 1 1;bank 1 1 1;deed 0 0 59");
            run.due("sell(" + second + ", 0)", NOT).due("sell(" + second + ", 1)", 0);
            run.due("second(" + second + ", 0)", 1).due("person(0, 9)", 59).due("person(1, 9)", 1);
            run.due("sell(" + second + ", 1)", NOT).due("sell(" + second + ", -1)", 1).due("count(4)", 59);
            run.due("second(" + second + ", 0)", NONE).due("sell(" + second + ", -1)", NOT);
            run.due("sell(" + second + ", 0)", NONE).due("person(0, 9)", 60).due("count(8)", 3);
        }
        Run run = Run.told("climber 1 1 1").due("sell(-1, 0)", OUTSIDE).due("sell(60, 0)", OUTSIDE);
        run.due("sell(60, -1)", OUTSIDE).due("sell(60, 1)", UNKNOWN).due("sell(0, -2)", UNKNOWN);
        // what is sold is paid for anew
        Run paid = Run.told("climber 1 1 0;bank 1 1 9;climber 1 1 2;deed 1 5 5").then("start(0, 4)");
        paid.due("person(0, 8)", 18).then("sell(5, 2)").due("person(0, 8)", 2).then("sell(5, 0)");
        paid.due("person(0, 8)", 0).then("sell(5, -1)").due("person(0, 8)", 0);
    }

    /** "PERSON (0); CLIMBER (1) under it; GUIDE (2) is CLIMBER; MOURNER (3) is CLIMBER; BANK (4) is a PERSON" */
    private static void kindsOverOneAnother() {
        boolean[][] is = {{true, true, false, false, false}, {true, true, true, false, false},
            {true, true, false, true, false}, {true, false, false, false, true}};
        int[] answer = {708, 707, 708, 1408};
        for (int kind = 0; kind < 4; kind++) {
            Run run = Run.told(KINDS[kind] + " 8 1 7").due("as(0, -1)", OUTSIDE).due("as(0, 5)", OUTSIDE);
            for (int as = 0; as <= 4; as++) {
                run.due("as(0, " + as + ")", is[kind][as] ? answer[kind] : NOT);
            }
            run.due("as(1, 0)", UNKNOWN).due("as(1, 5)", UNKNOWN).due("as(-1, -1)", UNKNOWN);
        }
        // THE CLOCK, a ROPE, clouds do not come into it
        Run run = Run.told("bank 20 6 20;fog 0 59").then("clock(9)", "rope(0, 1)").due("as(0, 4)", 4020);
        run.due("as(0, 1)", NOT);
    }
}
