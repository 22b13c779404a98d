import java.util.ArrayList;
import java.util.EnumMap;
import java.util.List;
import java.util.Map;

/** Objects with much or little told and done, and whether one is still as it was made. */
final class Sample {
    /** NEW: nothing. TOLD: two people, nothing done. RICH: some of all. FULL: as much of all as there can be. */
    enum Sort { NEW, TOLD, RICH, FULL }

    private static final Map<Sort, List<Long>> LOOKS = new EnumMap<>(Sort.class);

    private Sample() {
    }

    static Run rich() {
        return of(Sort.RICH);
    }

    static Run of(Sort sort) {
        switch (sort) {
            case TOLD:
                return Run.told("climber 5 3 4;bank 1 2 3;deed 0 10 10;deed 1 20 29;fog 22 22");
            case RICH:
                return Run.told("climber 5 3 4;bank 2 2 9;mourner 3 6 2;deed 1 0 20;deed 0 30 31;fog 9 9")
                    .then("keep(0)", "start(0, 4)", "start(2, 44)", "rope(0, 1)", "clock(2)", "halve(0, 1)")
                    .then("sell(40, 2)", "seen(0, 18)", "seen(2, 0)").put("fog 3 4;hut");
            case FULL:
                return Run.told("bank 1 1 1;bank 1 1 2;bank 1 1 3;bank 1 1 4;bank 1 1 5;bank 1 1 6")
                    .then("start(0, 0)", "keep(0)", "clock(3)", "keep(1)", "sell(4, 1)", "sell(5, 1)", "start(2, 0)")
                    .then("rope(5, 1)", "start(5, 59)", "stays(0)", "halve(1, 3)")
                    .then("seen(0, 0)", "seen(1, 0)", "seen(2, 4)", "seen(3, 0)", "seen(4, 0)", "seen(5, 0)")
                    .put("fog 3 4" + " ".repeat(152) + ".");
            default:
                return Run.anew();
        }
    }

    /** The object answers all that can be asked, undone and gone back to as a new one of its sort does. */
    static void isStill(String what, Sort sort, Run run) {
        List<Long> due = LOOKS.computeIfAbsent(sort, s -> look(of(s)));
        List<Long> got = look(run);
        for (int i = 0; i < due.size(); i++) {
            Check.due(sort + " " + what + ", look " + i, got.get(i), due.get(i));
        }
    }

    private static List<Long> look(Run run) {
        List<Long> seen = new ArrayList<>();
        for (int what = 0; what <= 9; what++) {
            seen.add(run.call("count(" + what + ")"));
            for (int person = 0; person <= 5; person++) {
                seen.add(run.call("person(" + person + ", " + what + ")"));
            }
        }
        for (int second = 0; second <= 59; second++) {
            seen.add(run.call("second(" + second + ", 0)"));
        }
        for (int second = 0; second <= 9; second++) {
            seen.add(run.call("second(" + second + ", 1)"));
        }
        seen.add(run.call("fault()"));
        seen.add(run.call("clocks()"));
        for (int i = 0; i < 9; i++) {
            lookShort(run, "undo()", seen);
        }
        lookShort(run, "back(0)", seen);
        lookShort(run, "back(1)", seen);
        return seen;
    }

    private static void lookShort(Run run, String call, List<Long> seen) {
        seen.add(run.call(call));
        for (String asked : new String[] {"count(1)", "count(2)", "count(6)", "count(4)", "person(1, 9)"}) {
            seen.add(run.call(asked));
        }
    }
}
