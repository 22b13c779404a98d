import java.math.BigInteger;

/** Terms, 3: SEEN, CLOCKS, CLEAR; promises 6, 7 and 24 to 28, at their edges. */
final class SeenEdgeTest {
    private static final int NONE = SummitTime.NONE;
    private static final int FULL = SummitTime.FULL;
    private static final int OUTSIDE = SummitTime.OUTSIDE;
    private static final int UNKNOWN = SummitTime.UNKNOWN;
    private static final String SIX = "bank 1 1 1;bank 1 1 1;bank 1 1 1;bank 1 1 1;bank 1 1 1;bank 1 1 1";

    private SeenEdgeTest() {
    }

    public static void main(String[] args) {
        sixSeen();
        finesSeen();
        firstRefusalFirst();
        forget();
        eachClock();
        clocksFromNoneToAll();
        clocksOfAllSeen();
        clocksAt59();
        clocksOfCrowd();
        clocksWhateverTheClock();
        clocksAsItIsNow();
        clearEverywhere();
        clearWhateverIsTold();
        clearRefused();
        whatOfPerson();
        whatOfSecond();
        whatOfCount();
        Check.finish();
    }

    /** "SEEN, 6 at most" */
    private static void sixSeen() {
        Run run = Run.told(SIX).due("count(7)", 0);
        for (int i = 0; i < 6; i++) {
            run.due("seen(" + i + ", 0)", i + 1).due("count(7)", i + 1);
        }
        run.due("clocks()", 1023).due("seen(0, 0)", FULL).due("seen(5, 9)", FULL).due("count(7)", 6);
        // the seventh was not put in place of another
        run.due("clocks()", 1023).due("forget()", 6).due("seen(5, 9)", 1).due("clocks()", 0);
        Run same = Run.told(SIX);
        for (int i = 1; i <= 6; i++) {
            same.due("seen(3, 0)", i);
        }
        same.due("seen(3, 0)", FULL);
    }

    /** "fined n (0 .. 99)" */
    private static void finesSeen() {
        Run run = Run.told(SIX).due("seen(0, -1)", OUTSIDE).due("seen(0, 100)", OUTSIDE).due("count(7)", 0);
        run.due("seen(0, 0)", 1).due("seen(0, 99)", 2).due("count(7)", 2);
        Run most = Run.told("climber 1 6 0;climber 1 1 19;bank 1 1 20;deed 2 1 2;deed 1 3 3").then("start(0, 0)");
        most.due("person(0, 8)", 99).due("seen(0, 99)", 1).due("clocks()", 1);
        most.due("seen(0, 98)", 2).due("clocks()", 0);
    }

    private static void firstRefusalFirst() {
        Run run = Run.told(SIX).due("seen(6, 100)", UNKNOWN).due("seen(6, 0)", UNKNOWN).due("seen(-1, -1)", UNKNOWN);
        for (int i = 1; i <= 6; i++) {
            run.due("seen(0, 0)", i);
        }
        run.due("seen(6, 0)", UNKNOWN).due("seen(6, 100)", UNKNOWN).due("seen(0, 100)", OUTSIDE);
        run.due("seen(0, -1)", OUTSIDE).due("seen(0, 0)", FULL).due("count(7)", 6).due("clocks()", 1023);
    }

    private static void forget() {
        Run.anew().due("forget()", 0).due("count(7)", 0);
        Run run = Run.told(SIX).due("forget()", 0);
        for (int n = 1; n <= 6; n++) {
            for (int i = 1; i <= n; i++) {
                run.due("seen(0, 7)", i);
            }
            run.due("forget()", n).due("count(7)", 0).due("forget()", 0).due("clocks()", 1023);
        }
    }

    /** "CLOCKS (0 .. 9, by bits)": each alone */
    private static void eachClock() {
        for (int k = 0; k <= 9; k++) {
            Run run = Run.told("climber 1 1 0;climber 1 1 7;deed 1 " + (11 + k) + " " + (11 + k));
            run.then("start(0, 10)", "seen(0, 7)").due("clocks()", 1 << k).then("forget()", "seen(0, 0)");
            run.due("clocks()", 1023 & ~(1 << k)).then("seen(0, 7)").due("clocks()", 0);
        }
        // one SECOND ahead of the first, one behind the last
        for (int second : new int[] {10, 21}) {
            Run run = Run.told("climber 1 1 0;climber 1 1 7;deed 1 " + second + " " + second).then("start(0, 10)");
            run.then("seen(0, 7)").due("clocks()", 0).then("forget()", "seen(0, 0)").due("clocks()", 1023);
        }
    }

    private static void clocksFromNoneToAll() {
        Run.anew().due("clocks()", 1023).then("clock(5)").due("clocks()", 1023);
        Run run = Run.told("climber 1 1 0;climber 1 1 7;deed 1 0 59").due("clocks()", 1023).then("start(0, 10)");
        run.due("clocks()", 1023).due("seen(0, 7)", 1).due("clocks()", 1023).due("seen(0, 6)", 2).due("clocks()", 0);
        // who does not go is fined nothing by any clock
        Run nobody = Run.told("climber 1 1 0").due("seen(0, 0)", 1).due("clocks()", 1023).due("seen(0, 1)", 2);
        nobody.due("clocks()", 0);
    }

    /** "by which all that is SEEN would be so" */
    private static void clocksOfAllSeen() {
        Run run = Run.told("climber 1 1 0;climber 1 1 0;climber 1 1 7;deed 2 15 18;deed 2 35 39");
        run.then("start(0, 10)", "start(1, 30)", "seen(0, 7)").due("clocks()", 0b0011110000);
        run.then("seen(1, 7)").due("clocks()", 0b0011110000).then("forget()", "seen(1, 7)").due("clocks()", 0b0111110000);
        run.then("seen(0, 0)").due("clocks()", 0b0100000000).then("seen(2, 0)").due("clocks()", 0b0100000000);
        run.then("seen(2, 1)").due("clocks()", 0);
        // the sixth counts as the first does
        Run six = Run.told("climber 1 1 0;climber 1 1 7;deed 1 11 11").then("start(0, 10)");
        six.then("seen(1, 0)", "seen(1, 0)", "seen(1, 0)", "seen(1, 0)", "seen(1, 0)").due("clocks()", 1023);
        six.then("seen(0, 7)").due("clocks()", 1);
    }

    private static void clocksAt59() {
        Run run = Run.told("climber 1 2 0;climber 1 1 7;deed 1 0 59").then("start(0, 54)", "seen(0, 14)");
        // he stands in 55 and 56, and later: both till four set on, one by five, none from six on
        run.due("clocks()", 0b1111).then("forget()", "seen(0, 7)").due("clocks()", 0b10000);
        run.then("forget()", "seen(0, 0)").due("clocks()", 0b1111100000);
    }

    private static void clocksOfCrowd() {
        Run run = Run.told("mourner 1 1 0;climber 1 1 0;mourner 1 1 0;climber 1 1 3;deed 3 0 59");
        run.then("start(0, 45)", "start(1, 45)", "start(2, 45)", "seen(2, 4)").due("clocks()", 0b1111);
        run.then("forget()", "seen(2, 1)").due("clocks()", 0b1111110000).then("rope(2, 1)").due("clocks()", 0);
        run.then("forget()", "seen(2, 2)").due("clocks()", 0b1111);
    }

    private static void clocksWhateverTheClock() {
        Run run = Run.told("climber 1 1 0;climber 1 1 7;deed 1 14 15").then("start(0, 10)", "seen(0, 7)");
        for (int k = 0; k <= 9; k++) {
            run.then("clock(" + k + ")").due("clocks()", 0b11000).due("count(1)", k);
        }
    }

    /** "all STARTS, ROPES being as they are now" */
    private static void clocksAsItIsNow() {
        Run run = Run.told("climber 1 1 0;climber 1 1 6;deed 1 11 13").then("start(0, 10)", "seen(0, 6)");
        run.due("clocks()", 0b111).then("start(0, 9)").due("clocks()", 0b1110).then("rope(0, 1)").due("clocks()", 0);
        run.then("undo()").due("clocks()", 0b1110).then("stays(0)").due("clocks()", 0).due("count(7)", 1);
    }

    /** "the odds that of the SECONDS in which one stands k at least are not CLOUDED"; "in lowest terms" */
    private static void clearEverywhere() {
        for (int stood = 0; stood <= 6; stood++) {
            for (int q = 0; q <= 10; q++) {
                Run run = Run.told("climber 1 6 0");
                if (stood > 0) {
                    run.then("start(0, " + (stood == 6 ? 0 : 59 - stood) + ")");
                }
                run.due("person(0, 7)", stood);
                for (int k = 0; k <= 6; k++) {
                    BigInteger above = BigInteger.valueOf(ways(stood, k, q));
                    BigInteger below = BigInteger.TEN.pow(stood);
                    BigInteger shared = above.gcd(below);
                    String call = "clear(0, " + k + ", " + q + ", ";
                    run.due(call + "0)", above.divide(shared).longValue());
                    run.due(call + "1)", below.divide(shared).longValue());
                }
            }
        }
        Run six = Run.told("climber 1 6 0").then("start(0, 0)").due("clear(0, 6, 9, 0)", 1);
        six.due("clear(0, 6, 9, 1)", 1000000).due("clear(0, 1, 9, 0)", 468559).due("clear(0, 6, 10, 0)", 0);
        six.due("clear(0, 6, 10, 1)", 1).due("clear(0, 6, 0, 0)", 1).due("clear(0, 6, 0, 1)", 1);
    }

    /** Each weather in turn: how many of 10 to the power of stood have k clear SECONDS at least. */
    private static long ways(int stood, int k, int q) {
        long sum = 0;
        for (int weather = 0; weather < 1 << stood; weather++) {
            if (Integer.bitCount(weather) >= k) {
                long product = 1;
                for (int i = 0; i < stood; i++) {
                    product *= (weather >> i & 1) == 1 ? 10 - q : q;
                }
                sum += product;
            }
        }
        return sum;
    }

    /** "by itself, whatever is told" */
    private static void clearWhateverIsTold() {
        Run run = Run.told("climber 1 2 0;fog 0 59").then("start(0, 0)").due("clear(0, 2, 0, 0)", 1);
        run.due("clear(0, 2, 0, 1)", 1).due("clear(0, 1, 5, 0)", 3).due("clear(0, 1, 5, 1)", 4);
        Run clear = Run.told("climber 1 2 0").then("start(0, 0)", "rope(0, 1)").due("clear(0, 1, 10, 0)", 0);
        clear.due("clear(0, 1, 10, 1)", 1);
        // THE CLOCK decides for how many SECONDS he stands
        clear.then("start(0, 57)").due("clear(0, 2, 5, 1)", 4).then("clock(1)").due("clear(0, 1, 5, 1)", 2);
        clear.due("clear(0, 2, 5, 0)", 0).then("clock(2)").due("clear(0, 1, 5, 0)", 0).due("clear(0, 0, 5, 0)", 1);
    }

    private static void clearRefused() {
        Run run = Run.told("climber 1 2 0").due("clear(0, 0, 0, 0)", 1).due("clear(0, 6, 10, 1)", 1);
        run.due("clear(0, -1, 0, 0)", OUTSIDE).due("clear(0, 7, 0, 0)", OUTSIDE).due("clear(0, 0, -1, 0)", OUTSIDE);
        run.due("clear(0, 0, 11, 0)", OUTSIDE).due("clear(0, 0, 0, -1)", OUTSIDE).due("clear(0, 0, 0, 2)", OUTSIDE);
        run.due("clear(1, 0, 0, 0)", UNKNOWN).due("clear(1, 7, 11, 2)", UNKNOWN).due("clear(-1, 0, 0, 0)", UNKNOWN);
    }

    private static void whatOfPerson() {
        Run run = Run.told("guide 5 3 4;bank 20 6 20;deed 1 6 7;deed 0 0 2").then("start(0, 2)", "rope(0, 1)");
        int[] due = {1, 5, 3, 4, 2, 1, 6, 3, 40, 3};
        for (int what = 0; what < 10; what++) {
            run.due("person(0, " + what + ")", due[what]);
        }
        run.due("person(0, -1)", OUTSIDE).due("person(0, 10)", OUTSIDE).due("person(2, 0)", UNKNOWN);
        run.due("person(2, 10)", UNKNOWN).due("person(-1, -1)", UNKNOWN);
        run.due("person(1, 4)", NONE).due("person(1, 6)", NONE).due("person(1, 7)", 0);
    }

    private static void whatOfSecond() {
        Run run = Run.told("climber 1 1 0;climber 1 1 0;climber 1 1 0;deed 2 0 0;deed 1 59 59;fog 0 0;fog 59 59");
        run.then("start(0, 58)", "start(2, 58)").due("second(0, 0)", 2).due("second(0, 1)", 1).due("second(0, 2)", 0);
        run.due("second(59, 0)", 1).due("second(59, 1)", 1).due("second(59, 2)", 5).due("second(58, 2)", 0);
        run.due("second(1, 0)", NONE).due("second(1, 1)", 0).due("second(60, 2)", OUTSIDE).due("second(-1, 2)", OUTSIDE);
        run.due("second(0, 3)", OUTSIDE).due("second(0, -1)", OUTSIDE).due("second(60, 3)", OUTSIDE);
        Run six = Run.told(SIX);
        for (int person = 0; person < 6; person++) {
            six.then("start(" + person + ", 58)").due("second(59, 2)", (2 << person) - 1);
        }
    }

    private static void whatOfCount() {
        Run run = Run.told(SIX + ";deed 5 0 59;fog 0 59").put("x".repeat(160));
        for (int person = 0; person < 6; person++) {
            run.then("rope(" + person + ", 1)", "start(" + person + ", 0)", "seen(" + person + ", 0)");
        }
        run.then("clock(9)");
        // four are one too many, each with a rope
        int[] due = {6, 9, 63, 0, 60, 60, 63, 6, 8, 160};
        for (int what = 0; what < 10; what++) {
            run.due("count(" + what + ")", due[what]);
        }
        for (int person = 0; person < 6; person++) {
            run.then("rope(" + person + ", 0)").due("count(3)", Math.max(0, person - 1));
            run.due("count(6)", 63 & ~((2 << person) - 1));
        }
        run.due("count(10)", OUTSIDE).due("count(-1)", OUTSIDE);
    }
}
