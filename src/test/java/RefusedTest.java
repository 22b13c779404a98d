import java.util.ArrayList;
import java.util.List;

/**
 * "Refused, and nothing changes: UNKNOWN .., OUTSIDE .., NOT .., FULL: the first of these that fits."
 * Each refused call is made on an object of its own, which is looked at from all sides then.
 */
final class RefusedTest {
    private static final int UNKNOWN = SummitTime.UNKNOWN;
    private static final int OUTSIDE = SummitTime.OUTSIDE;
    private static final int NOT = SummitTime.NOT;
    private static final int FULL = SummitTime.FULL;
    private static final int LEAST = Integer.MIN_VALUE;
    private static final int MOST = Integer.MAX_VALUE;

    /** No such PERSON: ahead of whatever else is wrong. */
    private static final String[] OF_NOBODY = {"person(P, 0)", "person(P, 10)", "person(P, -1)", "as(P, 0)", "as(P, 5)",
        "as(P, -1)", "as(P, 4)", "start(P, 0)", "start(P, 60)", "start(P, -1)", "stays(P)", "rope(P, 0)", "rope(P, 1)",
        "rope(P, 2)", "rope(P, -1)", "halve(P, 0)", "halve(0, P)", "halve(P, 1)", "halve(1, P)", "halve(P, P)",
        "best(P, 0)", "best(P, 1)", "best(P, 2)", "best(P, -1)", "free(P)", "together(P, 0)", "together(0, P)",
        "together(P, P)", "seen(P, 0)", "seen(P, 100)", "seen(P, -1)", "clear(P, 0, 0, 0)", "clear(P, 7, 0, 0)",
        "clear(P, 0, 11, 0)", "clear(P, 0, 0, 2)", "clear(P, -1, -1, -1)"};
    private static final String[] SOLD_TO_NOBODY_KNOWN = {"sell(0, P)", "sell(59, P)", "sell(60, P)", "sell(-1, P)"};
    private static final String[] SETS_WITH_SUCH = {"order(P, 0, 0)", "order(P, 60, 0)", "order(P, -1, 0)",
        "order(P, 0, 7)", "order(P, 0, -1)", "order(P, 0, 6)"};

    /** A number that is not as told, with the greatest that is: the least is 0. */
    private static final Object[][] OF_NUMBERS = {{"write(N)", 255}, {"second(N, 0)", 59}, {"second(N, 2)", 59},
        {"second(0, N)", 2}, {"second(59, N)", 2}, {"clock(N)", 9}, {"sell(N, -1)", 59}, {"order(0, N, 0)", 59},
        {"order(0, 0, N)", 6}, {"ropes(N)", 99}, {"count(N)", 9}};
    private static final Object[][] OF_PEOPLE_AND_NUMBERS = {{"person(0, N)", 9}, {"person(1, N)", 9}, {"as(0, N)", 4},
        {"start(0, N)", 59}, {"start(1, N)", 59}, {"rope(0, N)", 1}, {"rope(1, N)", 1}, {"sell(N, 0)", 59},
        {"sell(N, 1)", 59}, {"best(0, N)", 1}, {"order(3, N, 0)", 59}, {"order(3, 0, N)", 6}, {"order(1, N, 1)", 59},
        {"seen(0, N)", 99}, {"seen(1, N)", 99}, {"clear(0, N, 0, 0)", 6}, {"clear(0, 0, N, 0)", 10},
        {"clear(0, 0, 0, N)", 1}, {"clear(1, N, 10, 1)", 6}};

    private RefusedTest() {
    }

    public static void main(String[] args) {
        for (Sample.Sort sort : Sample.Sort.values()) {
            int people = (int) Sample.of(sort).call("count(0)");
            noSuchPerson(sort, people);
            noSuchSet(sort, people);
            oneAndHimself(sort, people);
            notAsTold(sort, people);
            noSuchPlace(sort);
        }
        notNow();
        full();
        Check.finish();
    }

    private static void refused(Sample.Sort sort, String call, int answer) {
        Run run = Sample.of(sort);
        run.due(call, answer);
        Sample.isStill("behind " + call, sort, run);
    }

    private static void noSuchPerson(Sample.Sort sort, int people) {
        int[] nobody = {people, -1, -2, 6, 32, 64, LEAST, MOST};
        for (int person : nobody) {
            for (String call : OF_NOBODY) {
                refused(sort, call.replace("P", "" + person), UNKNOWN);
            }
            if (person != SummitTime.NONE) {
                for (String call : SOLD_TO_NOBODY_KNOWN) {
                    refused(sort, call.replace("P", "" + person), UNKNOWN);
                }
            }
        }
    }

    private static void noSuchSet(Sample.Sort sort, int people) {
        int[] sets = {1 << people, (1 << people) + 1, (1 << people + 1) - 1, 64, 1 << 30, -1, -64, LEAST, MOST};
        for (int set : sets) {
            for (String call : SETS_WITH_SUCH) {
                refused(sort, call.replace("P", "" + set), UNKNOWN);
            }
        }
    }

    /** "one and himself, where two are asked" */
    private static void oneAndHimself(Sample.Sort sort, int people) {
        for (int person = 0; person < people; person++) {
            refused(sort, "halve(" + person + ", " + person + ")", UNKNOWN);
            refused(sort, "together(" + person + ", " + person + ")", UNKNOWN);
        }
    }

    private static void notAsTold(Sample.Sort sort, int people) {
        List<Object[]> rows = new ArrayList<>(List.of(OF_NUMBERS));
        if (people > 0) {
            rows.addAll(List.of(OF_PEOPLE_AND_NUMBERS));
        }
        for (Object[] row : rows) {
            int most = (int) row[1];
            for (int number : new int[] {-1, most + 1, LEAST, MOST}) {
                refused(sort, ((String) row[0]).replace("N", "" + number), OUTSIDE);
            }
        }
        if (people > 0) {
            // the KIND is looked at ahead of what he is, NONE is nobody to sell to alone
            refused(sort, "as(1, 5)", OUTSIDE);
            refused(sort, "clear(0, 7, 11, 2)", OUTSIDE);
        }
    }

    /** "UNKNOWN: no such k." */
    private static void noSuchPlace(Sample.Sort sort) {
        for (int place : new int[] {-1, 2, 3, 31, 32, 33, LEAST, MOST}) {
            refused(sort, "keep(" + place + ")", UNKNOWN);
            refused(sort, "back(" + place + ")", UNKNOWN);
        }
    }

    private static void notNow() {
        String[] anew = {"top()", "undo()", "back(0)", "back(1)", "sell(0, -1)", "sell(59, -1)"};
        String[] told = {"top()", "undo()", "back(0)", "back(1)", "stays(0)", "stays(1)", "halve(0, 1)", "sell(10, 0)",
            "sell(20, 1)", "sell(29, 1)", "sell(0, -1)", "sell(59, -1)", "as(0, 2)", "as(0, 3)", "as(0, 4)", "as(1, 1)",
            "as(1, 2)", "as(1, 3)"};
        String[] rich = {"top()", "back(1)", "stays(1)", "halve(0, 1)", "halve(0, 2)", "halve(2, 0)", "sell(30, 0)",
            "sell(31, 1)", "sell(40, 2)", "sell(0, 1)", "sell(59, -1)", "as(2, 2)", "as(2, 4)", "as(1, 1)"};
        String[] whole = {"top()", "stays(0)", "stays(1)", "halve(0, 1)", "halve(1, 0)", "halve(3, 5)", "sell(4, 1)",
            "sell(5, 3)", "sell(6, -1)", "as(5, 1)", "as(0, 3)"};
        Sample.Sort[] sorts = {Sample.Sort.NEW, Sample.Sort.TOLD, Sample.Sort.RICH, Sample.Sort.FULL};
        String[][] calls = {anew, told, rich, whole};
        for (int i = 0; i < sorts.length; i++) {
            for (String call : calls[i]) {
                refused(sorts[i], call, NOT);
            }
        }
    }

    private static void full() {
        for (int letter : new int[] {0, 32, 97, 255}) {
            refused(Sample.Sort.FULL, "write(" + letter + ")", FULL);
        }
        for (int person = 0; person < 6; person++) {
            refused(Sample.Sort.FULL, "seen(" + person + ", 0)", FULL);
            refused(Sample.Sort.FULL, "seen(" + person + ", 99)", FULL);
        }
    }
}
