import java.util.ArrayDeque;
import java.util.Deque;

/** Promises 15 to 17: what can be undone, what is kept, at their edges. */
final class PastTest {
    private static final int NONE = SummitTime.NONE;
    private static final int NOT = SummitTime.NOT;
    private static final int UNKNOWN = SummitTime.UNKNOWN;
    private static final String TWO = "climber 5 3 4;bank 2 2 2;deed 0 10 19";

    private PastTest() {
    }

    public static void main(String[] args) {
        eachCanBeUndone();
        nothingBecameOther();
        lastEight();
        roundAndRound();
        undoneThenDoneAnew();
        othersAreNotUndone();
        undoLeavesTextAndSeen();
        refusedAreNotUndone();
        keptIsAll();
        keptIsNotText();
        twoPlaces();
        keptAnew();
        backAgainAndAgain();
        backThenNothingToUndo();
        refusedBack();
        keepLeavesUndo();
        undoLeavesKept();
        keptSinceTheLastText();
        Check.finish();
    }

    /** "The latest start(), stays(), rope(), clock(), halve(), sell() is undone" */
    private static void eachCanBeUndone() {
        Run run = Run.told(TWO).due("count(8)", 0).due("undo()", NOT);
        run.due("start(0, 3)", 8).due("count(8)", 1).due("undo()", 0).due("person(0, 4)", NONE).due("count(2)", 0);
        run.then("start(0, 3)").due("start(0, 9)", 14).due("count(8)", 2).due("undo()", 1).due("person(0, 4)", 3);
        run.due("stays(0)", 3).due("count(8)", 2).due("undo()", 1).due("person(0, 4)", 3).due("undo()", 0);
        run.due("rope(1, 1)", 0).due("count(8)", 1).due("undo()", 0).due("person(1, 5)", 0).due("count(6)", 0);
        run.then("rope(1, 1)").due("rope(1, 0)", 1).due("undo()", 1).due("person(1, 5)", 1).due("undo()", 0);
        run.due("clock(9)", 0).due("count(8)", 1).due("undo()", 0).due("count(1)", 0);
        run.due("halve(0, 1)", 5).due("count(8)", 1).due("undo()", 0).due("person(0, 9)", 10).due("person(1, 9)", 0);
        run.due("sell(10, -1)", 0).due("count(8)", 1).due("undo()", 0).due("second(10, 0)", 0);
        run.due("sell(59, 1)", NONE).due("undo()", 0).due("second(59, 0)", NONE).due("count(4)", 10);
        run.due("undo()", NOT).due("count(8)", 0);
    }

    /** "(also one by which nothing became other ..)" */
    private static void nothingBecameOther() {
        Run run = Run.told(TWO).due("clock(0)", 0).due("count(8)", 1).due("rope(0, 0)", 0).due("count(8)", 2);
        run.then("start(0, 3)").due("start(0, 3)", 8).due("count(8)", 4).due("undo()", 3).due("person(0, 4)", 3);
        run.due("undo()", 2).due("person(0, 4)", NONE).due("undo()", 1).due("undo()", 0).due("undo()", NOT);
    }

    /** "the last 8 can be" */
    private static void lastEight() {
        Run run = Run.told(TWO);
        for (int k = 1; k <= 9; k++) {
            run.due("clock(" + k + ")", k - 1).due("count(8)", Math.min(k, 8));
        }
        for (int left = 7; left >= 0; left--) {
            run.due("undo()", left).due("count(1)", left + 1).due("count(8)", left);
        }
        run.due("undo()", NOT).due("count(1)", 1).due("count(8)", 0);
        Run eight = Run.told(TWO);
        for (int k = 1; k <= 8; k++) {
            eight.then("clock(" + k + ")");
        }
        for (int left = 7; left >= 0; left--) {
            eight.due("undo()", left);
        }
        eight.due("undo()", NOT).due("count(1)", 0);
    }

    private static void roundAndRound() {
        Run run = Run.told(TWO);
        for (int i = 0; i < 60; i++) {
            run.then("start(0, " + i + ")");
        }
        for (int left = 7; left >= 0; left--) {
            run.due("undo()", left).due("person(0, 4)", 51 + left);
        }
        run.due("undo()", NOT).due("person(0, 4)", 51);
        // four steps on, one or two back
        Deque<Integer> past = new ArrayDeque<>();
        int now = 0;
        for (int i = 0; i < 90; i++) {
            if (i % 5 == 4 || i % 7 == 6) {
                now = past.pop();
                run.due("undo()", past.size());
            } else {
                past.push(now);
                if (past.size() > 8) {
                    past.removeLast();
                }
                run.due("clock(" + (i * 3 + 1) % 10 + ")", now);
                now = (i * 3 + 1) % 10;
            }
            run.due("count(1)", now).due("count(8)", past.size());
        }
    }

    private static void undoneThenDoneAnew() {
        Run run = Run.told(TWO).then("clock(1)", "clock(2)", "clock(3)").due("undo()", 2).due("count(1)", 2);
        run.due("clock(7)", 2).due("count(8)", 3).due("undo()", 2).due("count(1)", 2).due("undo()", 1);
        run.due("count(1)", 1).due("undo()", 0).due("count(1)", 0).due("undo()", NOT);
    }

    /** no other call is among what can be undone */
    private static void othersAreNotUndone() {
        Run run = Run.told(TWO).then("clock(4)").due("count(8)", 1);
        String[] others = {"write(97)", "fault()", "top()", "erase()", "person(0, 8)", "second(0, 0)", "as(0, 0)", "keep(0)",
            "keep(1)", "best(0, 0)", "order(3, 0, 0)", "reached()", "free(0)", "ropes(0)", "together(0, 1)", "seen(0, 0)",
            "clocks()", "forget()", "clear(0, 0, 0, 0)", "count(0)"};
        for (String call : others) {
            run.then(call).due("count(8)", 1);
        }
        run.due("undo()", 0).due("count(1)", 0).due("undo()", NOT);
    }

    private static void undoLeavesTextAndSeen() {
        Run run = Run.told(TWO).then("clock(4)", "clock(5)").put("hut").then("seen(0, 3)").due("undo()", 1);
        run.due("count(9)", 3).due("count(7)", 1).due("clocks()", 0).then("erase()", "forget()").due("undo()", 0);
        run.due("count(9)", 0).due("count(7)", 0).due("count(0)", 2).due("count(4)", 10);
    }

    private static void refusedAreNotUndone() {
        Run run = Run.told(TWO).then("clock(4)");
        String[] refused = {"start(2, 0)", "start(0, 60)", "stays(0)", "stays(2)", "rope(0, 2)", "rope(2, 0)", "clock(10)",
            "clock(-1)", "halve(1, 0)", "halve(0, 0)", "sell(10, 0)", "sell(60, 0)", "sell(0, 2)", "back(0)", "keep(2)"};
        for (String call : refused) {
            run.then(call).due("count(8)", 1);
        }
        run.due("undo()", 0).due("count(1)", 0);
    }

    /** "All as it is (but THE TEXT, SEEN, what can be undone) is kept (k 0, 1): THE CLOCK." */
    private static void keptIsAll() {
        for (int k = 0; k <= 1; k++) {
            Run run = Run.told(TWO).then("start(0, 7)", "rope(1, 1)", "clock(6)", "sell(10, 1)", "sell(19, -1)");
            run.due("keep(" + k + ")", 6).then("stays(0)", "start(1, 1)", "rope(1, 0)", "rope(0, 1)", "clock(2)");
            run.then("halve(0, 1)", "sell(10, -1)", "sell(19, 1)", "sell(30, 0)").due("back(" + k + ")", 6);
            run.due("count(1)", 6).due("count(2)", 1).due("person(0, 4)", 7).due("person(1, 4)", NONE).due("count(6)", 2);
            run.due("person(0, 9)", 8).due("person(1, 9)", 1).due("second(10, 0)", 1).due("second(19, 0)", NONE);
            run.due("second(30, 0)", NONE).due("second(11, 0)", 0).due("person(0, 6)", 18);
        }
    }

    private static void keptIsNotText() {
        Run run = Run.told(TWO).put("abc").then("seen(0, 1)", "clock(3)", "keep(0)", "seen(1, 1)").put("de");
        run.due("back(0)", 3).due("count(9)", 5).due("count(7)", 2).due("count(8)", 0).then("erase()", "forget()");
        run.due("back(0)", 3).due("count(9)", 0).due("count(7)", 0);
    }

    private static void twoPlaces() {
        Run run = Run.told(TWO).then("clock(1)").due("keep(0)", 1).due("back(1)", NOT).due("clock(2)", 1);
        run.due("keep(1)", 2).then("clock(3)").due("back(0)", 1).due("count(1)", 1).due("back(1)", 2).due("count(1)", 2);
        run.due("keep(2)", UNKNOWN).due("keep(-1)", UNKNOWN).due("back(2)", UNKNOWN).due("back(-1)", UNKNOWN);
        Run other = Run.told(TWO).due("keep(1)", 0).due("back(0)", NOT).due("back(1)", 0);
        other.due("back(0)", NOT);
    }

    private static void keptAnew() {
        Run run = Run.told(TWO).then("clock(1)", "keep(0)", "clock(2)").due("keep(0)", 2).then("clock(9)");
        run.due("back(0)", 2).due("count(1)", 2);
    }

    private static void backAgainAndAgain() {
        Run run = Run.told(TWO).then("start(0, 7)", "sell(10, 1)", "keep(1)");
        for (int i = 0; i < 3; i++) {
            run.then("stays(0)", "sell(10, -1)", "clock(9)").due("back(1)", 0).due("person(0, 4)", 7);
            run.due("second(10, 0)", 1).due("count(1)", 0);
        }
        run.due("back(1)", 0).due("person(0, 4)", 7);
    }

    /** "It is as it was kept, nothing can be undone" */
    private static void backThenNothingToUndo() {
        Run run = Run.told(TWO).then("clock(1)", "keep(0)", "clock(2)").due("count(8)", 2).due("back(0)", 1);
        run.due("count(8)", 0).due("undo()", NOT).due("count(1)", 1).due("clock(5)", 1).due("count(8)", 1);
        run.due("undo()", 0).due("count(1)", 1).due("undo()", NOT);
        // full, then back, then full again
        for (int k = 0; k <= 8; k++) {
            run.then("clock(" + k + ")");
        }
        run.due("count(8)", 8).due("back(0)", 1).due("count(8)", 0);
        for (int k = 0; k <= 9; k++) {
            run.then("clock(" + k + ")");
        }
        for (int left = 7; left >= 0; left--) {
            run.due("undo()", left).due("count(1)", left + 1);
        }
        run.due("undo()", NOT);
    }

    private static void refusedBack() {
        Run run = Run.told(TWO).then("clock(1)", "clock(2)").due("back(0)", NOT).due("back(1)", NOT).due("count(8)", 2);
        run.due("back(2)", UNKNOWN).due("count(8)", 2).due("count(1)", 2).due("undo()", 1);
    }

    private static void keepLeavesUndo() {
        Run run = Run.told(TWO).then("clock(1)", "clock(2)").due("keep(0)", 2).due("count(8)", 2).due("undo()", 1);
        run.due("count(1)", 1).due("keep(1)", 1).due("undo()", 0).due("count(1)", 0);
    }

    private static void undoLeavesKept() {
        Run run = Run.told(TWO).then("clock(1)", "keep(0)", "undo()").due("count(1)", 0).due("back(0)", 1);
        run.due("count(1)", 1);
    }

    /** "NOT: nothing was kept since the last text." */
    private static void keptSinceTheLastText() {
        Run run = Run.anew().due("back(0)", NOT).due("clock(4)", 0).due("keep(0)", 4).due("clock(0)", 4).due("back(0)", 4);
        run.tell(TWO).due("back(0)", NOT).due("back(1)", NOT).due("keep(1)", 0).due("back(0)", NOT).due("back(1)", 0);
        // a text that is not done, or only asked about, changes nothing
        run.put("hut").due("top()", NOT).due("back(1)", 0).then("erase()").put("top").then("fault()").due("back(1)", 0);
        run.due("erase()", 3).due("back(1)", 0).tell("clear").due("back(1)", NOT);
    }
}
