import java.util.ArrayList;
import java.util.List;

/** Promises 21 and 22. */
public final class CountAndUndoTest {
    public static void main(String[] args) {
        promise21Count();
        promise21CountErrors();
        promise22Undo();
        promise22UndoRestoresAll();
        promise22UndoKeepsTheText();
        Run.end();
    }

    private static void promise21Count() {
        Run run = new Run("promise 21: count");
        run.due("bring(11, 2, 0)", 0).due("bring(4, 2, 1)", 1).due("bring(5, 6, 0)", 2).due("bring(6, 1, 1)", 3);
        run.due("hold(0, 1)", -1).due("hold(1, 2)", -1).due("hold(3, 3)", -1).due("request(1, 1)", 1);
        run.due("request(4, 4)", 2).due("send(3, -1, -1)", 1).due("weigh()", 0).typed("weigh;");
        told(run, 1, 0, 0, 0, 1, 4, 1, 0, 2, 0, 0, Run.NOT_FOUND, Run.NOT_FOUND, 3, 4, 6);
        run.due("turn(2)", 2).due("lift(0)", 0).due("lift(1)", 1);
        told(run, 5, 2, 2, 15, 0, 4, 1, 0, 2, 0, 1, Run.NOT_FOUND, Run.NOT_FOUND, 3, 4, 6);
        run.due("weigh()", 15).due("mount(0)", 0).due("clearText()", 6);
        told(run, 9, 2, 1, 11, 0, 4, 1, 0, 2, 0, 1, 1, Run.NOT_FOUND, 3, 4, 0);
        run.due("lay(3)", 0).due("serve(1)", 1).due("clearText()", 0);
        // lay 1, lift 1, weigh 1, 2 to the right 4, weigh 1, 2 to the right 4, mount 3
        told(run, 24, 6, 0, 0, 0, 4, 1, 0, 1, 1, 3, 1, 0, 3, 4, 0);
        run.due("undo()", 3).due("count(14)", 3).due("count(0)", 10).due("count(12)", Run.NOT_FOUND).due("count(9)", 0);
    }

    private static void told(Run run, int... told) {
        for (int what = 0; what < told.length; what++) {
            run.due("count(" + what + ")", told[what]);
        }
    }

    private static void promise21CountErrors() {
        Run run = new Run("promise 21: count, out of range");
        run.error("count(-1)", Run.INVALID).error("count(16)", Run.INVALID).error("count(-2147483648)", Run.INVALID);
        run.error("count(2147483647)", Run.INVALID).error("count(11)", Run.NOT_FOUND).error("count(12)", Run.NOT_FOUND);
        Run worn = new Run("promise 21: count, worn with a neighbor");
        worn.due("bring(4, 6, 0)", 0).due("weigh()", 0).due("turn(-2)", 6).due("lift(0)", 0);
        for (int times = 0; times < 6; times++) {
            worn.due("mount(1)", 0).due("take(1)", 0);
        }
        worn.due("lay(0)", 0).due("send(0, -1, -1)", 1).due("bring(1, 0, 0)", 1).due("count(7)", 1).due("count(5)", 2);
    }

    private static void promise22Undo() {
        Run run = new Run("promise 22: undo");
        run.error("undo()", Run.NOT_POSSIBLE);
        run.due("bring(4, 0, 0)", 0).due("count(14)", 1).due("undo()", 0).due("count(5)", 0);
        run.due("shelfOf(0, 0)", Run.NOT_FOUND).error("undo()", Run.NOT_POSSIBLE);
        for (int ticks = 1; ticks <= 6; ticks++) {
            run.due("weigh()", 0).due("count(14)", Math.min(ticks, 4));
        }
        run.due("undo()", 3).due("count(0)", 5).due("undo()", 2).due("count(0)", 4).due("weigh()", 0);
        run.due("count(14)", 3).due("count(0)", 5).due("undo()", 2).due("count(0)", 4);
        run.due("undo()", 1).due("count(0)", 3).due("undo()", 0).due("count(0)", 2).error("undo()", Run.NOT_POSSIBLE);
        run.due("count(4)", 1).due("bring(1, 1, 1)", 0).due("bring(1, 2, 1)", 1).due("undo()", 1);
        run.due("bring(9, 3, 3)", 1);
        run.due("cartridgeOf(1, 3)", 33).due("shelfOf(2, 1)", Run.NOT_FOUND).due("cartridgeOf(1, 0)", 9);
    }

    /** Each kind of change is undone wholly, also several of them. */
    private static void promise22UndoRestoresAll() {
        String[] calls = {"bring(3, 2, 0)", "bring(20, 2, 1)", "bring(5, 6, 0)", "hold(0, 1)", "hold(0, 2)",
            "hold(1, 3)", "request(1, 5)", "request(3, 6)", "request(2, 6)", "weigh()", "turn(2)", "lift(0)",
            "mount(0)", "lift(1)", "lay(2)", "take(0)", "lay(0)", "serve(0)", "hold(1, 1)", "hold(2, 1)",
            "request(1, 1)", "serve(3)", "take(1)", "lay(0)", "send(2, -1, -1)", "play()", "send(2, 0, 0)"};
        int[] want = {0, 1, 2, -1, -1, -1, 1, 2, 3, 0, 2, 0, 2, 1, 1, 0, 0, 1, 0, 1, 1, 1, 2, 2, 1, 2, 0};
        for (int calledOnes = 1; calledOnes <= calls.length; calledOnes++) {
            Run run = new Run("promise 22: undo, after " + calls[calledOnes - 1]).typed("weigh;left 1;");
            List<List<String>> states = new ArrayList<>();
            for (int i = 0; i < calledOnes; i++) {
                states.add(run.everything().get(0));
                run.due(calls[i], want[i]);
            }
            for (int left = Math.min(calledOnes, 4) - 1; left >= 0; left--) {
                run.due("undo()", left);
                List<String> got = run.everything().get(0);
                List<String> before = states.remove(states.size() - 1);
                // The number of states in the history is not a part of the state.
                got.removeIf(told -> told.startsWith("count(14)"));
                before.removeIf(told -> told.startsWith("count(14)"));
                run.differences("undo() restored ", got, before);
            }
        }
    }

    private static void promise22UndoKeepsTheText() {
        Run run = new Run("promise 22: undo, the text stays");
        run.due("weigh()", 0).typed("weigh;").due("weigh()", 0).typed("lif").due("count(14)", 2);
        run.due("undo()", 1).due("count(15)", 9).due("fault(0)", 6).due("clearText()", 9).due("undo()", 0);
        run.due("count(15)", 0).due("count(0)", 0);
    }
}
