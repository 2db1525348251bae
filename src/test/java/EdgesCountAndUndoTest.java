import java.util.ArrayList;
import java.util.List;

/** The edges of the promises 21 and 22, and of the history: a test for each sentence that names one. */
public final class EdgesCountAndUndoTest {
    public static void main(String[] args) {
        countWhat();
        countTicks();
        countWall();
        countPallet();
        countWeighed();
        countCartridges();
        countWithNeighbors();
        countWorn();
        countRequests();
        countServed();
        countTurns();
        countDrives();
        countFiles();
        countStates();
        countText();
        countErrorsInOrder();
        undoEmpty();
        undoOne();
        undoFourStates();
        undoFiveStates();
        undoAround();
        undoRemovesTheState();
        undoIsNoChange();
        undoEachKindOfChange();
        undoErrorsAreNotRecorded();
        undoLooksAreNotRecorded();
        undoEverythingButTheText();
        Run.end();
    }

    private static void countWhat() {
        Run run = new Run("promise 21: what: 0 to 15").range("count(#)", 0, 15).error("count(0)", 0);
        run.error("count(15)", 0);
        run.due("bring(3, 0, 0)", 0).due("weigh()", 0).typed("x").range("count(#)", 0, 15).due("count(0)", 1);
        run.due("count(15)", 1);
    }

    private static void countTicks() {
        Run run = new Run("promise 21: 0: the ticks so far").due("bring(10, 2, 0)", 0).due("hold(0, 1)", -1);
        run.due("request(1, 1)", 1).due("send(0, -1, -1)", 1).due("send(0, 2, 0)", 0).due("play()", 0);
        run.due("count(0)", 0);
        run.due("weigh()", 0).due("count(0)", 1).due("turn(2)", 2).due("count(0)", 3).due("lift(0)", 0);
        run.due("count(0)", 4);
        run.due("mount(0)", 1).due("count(0)", 7).due("take(0)", 0).due("count(0)", 9).due("lay(3)", 0);
        run.due("count(0)", 10);
        run.due("request(1, 1)", 1).due("count(0)", 10).due("serve(0)", 1).due("count(0)", 14).due("undo()", 3);
        run.due("count(0)", 10);
    }

    private static void countWall() {
        Run run = new Run("promise 21: 1: the wall at which the mast looks").due("count(1)", 0);
        for (int wall = 1; wall <= 9; wall++) {
            run.due("weigh()", 0).due("turn(1)", wall % 8).due("count(1)", wall % 8);
        }
        run.due("weigh()", 0).due("turn(-2)", 7).due("count(1)", 7);
    }

    private static void countPallet() {
        Run run = new Run("promise 21: 2: cartridges on the pallet; 3: the weight of the pile").due("bring(20, 0, 0)", 0);
        run.due("bring(20, 0, 1)", 1).due("bring(20, 0, 2)", 2).due("count(2)", 0).due("count(3)", 0);
        for (int cartridge = 0; cartridge < 3; cartridge++) {
            run.due("lift(" + cartridge + ")", cartridge).due("count(2)", cartridge + 1);
            run.due("count(3)", 20 * cartridge + 20);
        }
        for (int cartridge = 2; cartridge >= 0; cartridge--) {
            run.due("lay(" + cartridge + ")", cartridge).due("count(2)", cartridge).due("count(3)", 20 * cartridge);
        }
    }

    private static void countWeighed() {
        Run run = new Run("promise 21: 4: 1 if the pallet is weighed, otherwise 0").due("count(4)", 0);
        run.due("weigh()", 0);
        run.due("count(4)", 1).due("turn(1)", 1).due("count(4)", 0).due("undo()", 1).due("count(4)", 1);
        run.due("undo()", 0);
        run.due("count(4)", 0);
    }

    private static void countCartridges() {
        Run run = new Run("promise 21: 5: cartridges in all");
        for (int cartridge = 0; cartridge < 30; cartridge++) {
            run.due("count(5)", cartridge).due("bring(3, " + cartridge / 4 + ", " + cartridge % 4 + ")", cartridge);
        }
        run.due("count(5)", 30).due("bring(3, 7, 3)", Run.LIMIT).due("count(5)", 30).due("send(0, -1, -1)", 1);
        run.due("lift(1)", 1).due("count(5)", 30);
    }

    private static void countWithNeighbors() {
        Run run = new Run("promise 21: 6: those with neighbors").due("bring(3, 0, 0)", 0).due("bring(3, 0, 1)", 1);
        run.due("count(6)", 0).due("send(1, -1, -1)", 1).due("count(6)", 1).due("send(0, -1, -1)", 2);
        run.due("count(6)", 2);
        run.due("bring(3, 0, 0)", 2).due("count(6)", 2).due("send(1, 5, 0)", 1).due("count(6)", 1).due("lift(0)", 2);
        run.due("count(6)", 1);
    }

    private static void countWorn() {
        Run run = new Run("promise 21: 7: those that are worn").due("bring(3, 2, 0)", 0).due("bring(3, 2, 1)", 1);
        run.due("weigh()", 0).due("turn(2)", 2);
        for (int cartridge = 0; cartridge < 2; cartridge++) {
            run.due("lift(" + cartridge + ")", cartridge);
            for (int wear = 1; wear <= 6; wear++) {
                run.due("mount(0)", 0).due("count(7)", wear < 6 ? cartridge : cartridge + 1).due("take(0)", cartridge);
            }
            run.due("count(7)", cartridge + 1).due("lay(" + cartridge + ")", cartridge).due("count(7)", cartridge + 1);
        }
        run.due("send(1, -1, -1)", 1).due("count(7)", 2);
    }

    private static void countRequests() {
        Run run = new Run("promise 21: 8: requests that wait").due("count(8)", 0);
        for (int waiting = 1; waiting <= 12; waiting++) {
            run.due("request(5, 5)", waiting).due("count(8)", waiting);
        }
        run.due("request(5, 5)", Run.LIMIT).due("count(8)", 12).due("bring(3, 2, 0)", 0).due("hold(0, 5)", -1);
        run.due("serve(0)", 12).due("count(8)", 0);
    }

    private static void countServed() {
        Run run = new Run("promise 21: 9: requests served so far").due("bring(3, 2, 0)", 0).due("bring(3, 6, 0)", 1);
        run.due("hold(0, 0)", -1).due("hold(1, 1)", -1).due("request(0, 0)", 1).due("request(0, 0)", 2);
        run.due("count(9)", 0);
        run.due("request(1, 0)", 3).due("serve(0)", 2).due("count(9)", 2).due("serve(0)", 1).due("count(9)", 3);
        run.due("request(1, 0)", 1).due("take(1)", 1).due("mount(1)", 1).due("count(9)", 4).due("undo()", 3);
        run.due("count(9)", 3);
    }

    private static void countTurns() {
        Run run = new Run("promise 21: 10: one by each turning, by however many walls").due("count(10)", 0);
        int[] walls = {1, -1, 4, -4, 2, -3};
        for (int turns = 0; turns < walls.length; turns++) {
            run.due("weigh()", 0).due("count(10)", turns);
            run.due("turn(" + walls[turns] + ")", new int[] {1, 0, 4, 0, 2, 7}[turns]).due("count(10)", turns + 1);
        }
        run.due("turn(1)", Run.NOT_POSSIBLE).due("turn(0)", Run.INVALID).due("count(10)", 6);
        Run served = new Run("promise 21: 10: the turns of serving too").due("bring(20, 6, 0)", 0);
        served.due("hold(0, 0)", -1);
        served.due("bring(1, 6, 1)", 1).due("hold(1, 1)", -1).due("request(1, 0)", 1).due("serve(0)", 1);
        served.due("count(10)", 1);
        served.due("request(0, 0)", 1).due("serve(0)", 1).due("count(10)", 3).due("wayTo(6)", 5).due("count(10)", 3);
    }

    private static void countDrives() {
        Run run = new Run("promise 21: 11: the cartridge in drive 0; 12: that in drive 1 (NOT_FOUND if it is empty)");
        run.error("count(11)", Run.NOT_FOUND).error("count(12)", Run.NOT_FOUND).due("bring(3, 2, 0)", 0);
        run.due("bring(3, 2, 1)", 1).due("weigh()", 0).due("turn(2)", 2).due("lift(1)", 1).due("lift(0)", 0);
        run.due("mount(0)", 0).due("count(11)", 0).due("count(12)", Run.NOT_FOUND).due("weigh()", 3).due("turn(4)", 6);
        run.due("mount(1)", 0).due("count(11)", 0).due("count(12)", 1).due("take(1)", 1);
        run.due("count(12)", Run.NOT_FOUND);
        run.due("count(11)", 0).due("weigh()", 3).due("turn(4)", 2).due("take(0)", 0).due("count(11)", Run.NOT_FOUND);
    }

    private static void countFiles() {
        Run run = new Run("promise 21: 13: files that are held");
        for (int file = 0; file < 60; file++) {
            if (file % 4 == 0) {
                run.due("bring(3, " + file / 16 + ", " + file / 4 % 4 + ")", file / 4);
            }
            run.due("count(13)", file).due("hold(" + file / 4 + ", " + file + ")", -1);
        }
        run.due("count(13)", 60).due("hold(0, 0)", 0).due("count(13)", 60).due("send(0, -1, -1)", 1);
        run.due("count(13)", 60);
        run.due("bring(3, 7, 3)", 15).due("hold(15, 0)", 0).due("count(13)", 60).due("undo()", 3).due("count(13)", 60);
    }

    private static void countStates() {
        Run run = new Run("promise 21: 14: states in the history").due("count(14)", 0);
        for (int changes = 1; changes <= 6; changes++) {
            run.due("weigh()", 0).due("count(14)", Math.min(changes, 4));
        }
        for (int left = 3; left >= 0; left--) {
            run.due("undo()", left).due("count(14)", left);
        }
        run.error("undo()", Run.NOT_POSSIBLE).due("count(14)", 0);
    }

    private static void countText() {
        Run run = new Run("promise 21: 15: the length of the text").due("count(15)", 0);
        for (int length = 1; length <= 60; length++) {
            run.due("type(32)", length).due("count(15)", length);
        }
        run.due("type(32)", Run.LIMIT).due("count(15)", 60).due("clearText()", 60).due("count(15)", 0);
    }

    private static void countErrorsInOrder() {
        Run run = new Run("promise 21: INVALID_ARGUMENT rather than NOT_FOUND").error("count(-1)", Run.INVALID);
        run.error("count(16)", Run.INVALID).error("count(2147483647)", Run.INVALID);
        run.error("count(-2147483648)", Run.INVALID);
    }

    private static void undoEmpty() {
        Run run = new Run("promise 22: NOT_POSSIBLE if it is empty").error("undo()", Run.NOT_POSSIBLE);
        run.due("bring(0, 0, 0)", Run.INVALID).error("undo()", Run.NOT_POSSIBLE).typed("x");
        run.error("undo()", Run.NOT_POSSIBLE);
        run.due("weigh()", 0).due("undo()", 0).error("undo()", Run.NOT_POSSIBLE).due("count(0)", 0);
    }

    private static void undoOne() {
        Run run = new Run("promise 22: returns the number of states that are left in the history").due("weigh()", 0);
        run.due("count(14)", 1).due("undo()", 0).due("weigh()", 0).due("weigh()", 0).due("undo()", 1).due("undo()", 0);
        run.error("undo()", Run.NOT_POSSIBLE);
    }

    private static void undoFourStates() {
        Run run = new Run("a history of at most 4 states is kept, 4").due("weigh()", 0).due("weigh()", 0);
        run.due("weigh()", 0);
        run.due("weigh()", 0).due("count(14)", 4);
        for (int left = 3; left >= 0; left--) {
            run.due("undo()", left).due("count(0)", left);
        }
        run.error("undo()", Run.NOT_POSSIBLE).due("count(0)", 0).due("count(4)", 0);
    }

    private static void undoFiveStates() {
        for (int changes = 5; changes <= 13; changes++) {
            Run run = new Run("if there are 5 states then, the oldest one is dropped, " + changes);
            run.each("weigh()", 1, changes, 0).due("count(14)", 4).due("count(0)", changes);
            for (int left = 3; left >= 0; left--) {
                run.due("undo()", left).due("count(0)", changes - 4 + left);
            }
            run.error("undo()", Run.NOT_POSSIBLE).due("count(0)", changes - 4);
        }
    }

    /** All ways of some changes, some calls of undo, and some changes again, beside a list of what was. */
    private static void undoAround() {
        for (int first = 0; first <= 6; first++) {
            for (int undone = 0; undone <= 4; undone++) {
                for (int then = 0; then <= 6; then++) {
                    Run run = new Run("the latest state of the history, " + first + ", " + undone + ", " + then);
                    List<Integer> states = new ArrayList<>();
                    int ticks = changed(run, states, 0, first);
                    ticks = undone(run, states, ticks, undone);
                    ticks = changed(run, states, ticks, then);
                    undone(run, states, ticks, 5);
                }
            }
        }
    }

    private static int changed(Run run, List<Integer> states, int ticks, int times) {
        for (int i = 0; i < times; i++) {
            states.add(ticks + i);
            if (states.size() == 5) {
                states.remove(0);
            }
            run.due("weigh()", 0).due("count(14)", states.size());
        }
        return ticks + times;
    }

    private static int undone(Run run, List<Integer> states, int ticks, int times) {
        int now = ticks;
        for (int i = 0; i < times; i++) {
            if (states.isEmpty()) {
                run.due("undo()", Run.NOT_POSSIBLE);
            } else {
                now = states.remove(states.size() - 1);
                run.due("undo()", states.size());
            }
            run.due("count(0)", now);
        }
        return now;
    }

    private static void undoRemovesTheState() {
        Run run = new Run("promise 22: the latest state, which is removed from it").due("bring(3, 0, 0)", 0);
        run.due("bring(3, 0, 1)", 1).due("bring(3, 0, 2)", 2).due("undo()", 2).due("count(5)", 2).due("undo()", 1);
        run.due("count(5)", 1).due("bring(9, 7, 3)", 1).due("undo()", 1).due("count(5)", 1).due("undo()", 0);
        run.due("count(5)", 0);
    }

    private static void undoIsNoChange() {
        Run run = new Run("promise 22: undo itself is no change").due("weigh()", 0).due("weigh()", 0).due("undo()", 1);
        run.due("count(14)", 1).due("undo()", 0).due("count(14)", 0).due("count(0)", 0);
        run.error("undo()", Run.NOT_POSSIBLE);
    }

    /**
     * Each call that is a change, on the same state, with 0 to 4 states in the history; it is one change,
     * and all of it goes back.
     */
    private static void undoEachKindOfChange() {
        String[] calls = {"bring(9, 7, 3)", "send(1, -1, -1)", "send(3, 4, 0)", "lift(1)", "lay(2)", "weigh()", "turn(-1)",
            "mount(0)", "hold(1, 50)", "hold(1, 0)", "hold(0, 0)", "request(1, 1)", "play()"};
        int[] wants = {4, 2, 0, 2, 0, 3, 1, 2, -1, 0, 0, 4, 2};
        for (int states = 0; states <= 4; states++) {
            for (int i = 0; i < calls.length; i++) {
                backAgain(left(states, ready(calls[i])), calls[i], wants[i]);
            }
            backAgain(left(states, ready("take(0)").due("mount(0)", 2)), "take(0)", 0);
            backAgain(left(states, ready("serve(0)").due("mount(0)", 2)), "serve(0)", 1);
            backAgain(left(states, ready("play of nothing").due("clearText()", 12)), "play()", 0);
        }
        backAgain(ready("weigh again").due("undo()", 3), "weigh()", 3);
    }

    /** The state as it is, with so many states in its history, of the four that there are. */
    private static Run left(int states, Run run) {
        for (int more = states; more < 4; more++) {
            run.due("hold(0, 2)", 0);
        }
        for (int left = 3; left >= states; left--) {
            run.due("undo()", left);
        }
        return run;
    }

    private static Run ready(String name) {
        Run run = new Run("the changes, each records everything before it: " + name).due("bring(3, 2, 0)", 0);
        run.due("bring(3, 6, 0)", 1).due("bring(3, 2, 1)", 2).due("bring(3, 6, 2)", 3).due("hold(0, 0)", -1);
        run.due("hold(1, 1)", -1).due("hold(0, 2)", -1).due("request(0, 1)", 1).due("request(1, 2)", 2);
        run.due("request(2, 3)", 3).due("send(3, -1, -1)", 1).due("weigh()", 0).due("turn(2)", 2).due("lift(0)", 0);
        return run.typed("weigh;lay 2;").due("weigh()", 3);
    }

    private static void backAgain(Run run, String call, int want) {
        List<String> before = run.everything().get(0);
        run.due("count(14)", count(before)).due(call, want).due("count(14)", Math.min(4, count(before) + 1));
        run.due("undo()", Math.min(3, count(before)));
        List<String> after = run.everything().get(0);
        before.removeIf(told -> told.startsWith("count(14)"));
        after.removeIf(told -> told.startsWith("count(14)"));
        run.differences(call + ", undo() restored ", after, before);
    }

    private static int count(List<String> state) {
        for (String told : state) {
            if (told.startsWith("count(14) = ")) {
                return Integer.parseInt(told.substring("count(14) = ".length()));
            }
        }
        return -1;
    }

    private static void undoErrorsAreNotRecorded() {
        Run run = new Run("the calls that return no error").due("bring(3, 1, 0)", 0).due("weigh()", 0);
        String[] calls = {"bring(0, 0, 0)", "bring(3, 1, 0)", "send(1, 0, 0)", "send(0, 0, 0)", "lift(4)", "lift(0)",
            "lay(4)", "lay(0)", "turn(0)", "mount(2)", "mount(0)", "take(2)", "take(0)", "hold(0, 60)", "request(60, 0)",
            "serve(4)", "serve(0)"};
        for (int i = 0; i < calls.length; i++) {
            boolean invalid = calls[i].matches(".*(bring\\(0|send\\(1|4\\)|turn|2\\)|60).*");
            run.error(calls[i], invalid ? Run.INVALID : Run.NOT_POSSIBLE).due("count(14)", 2);
        }
        run.typed("lift 0;").error("play()", Run.NOT_POSSIBLE).due("undo()", 1).due("count(0)", 0).due("undo()", 0);
    }

    private static void undoLooksAreNotRecorded() {
        Run run = new Run("type, clearText and what only looks are no changes").due("bring(3, 1, 0)", 0);
        run.due("hold(0, 5)", -1).due("request(5, 5)", 1).due("weigh()", 0).due("weigh()", 0).typed("weigh;");
        run.error("cartridgeOf(0, 3)", 10).error("shelfOf(1, 0)", 0).error("holder(5)", 0).error("requestOf(0, 0)", 5);
        run.error("nextBy(0)", 0).error("would(0, 0)", 8).error("wayTo(1)", 2).error("wholeBatch(0, 0)", 8);
        run.error("count(5)", 1).error("fault(0)", Run.NOT_FOUND).due("count(14)", 4).due("clearText()", 6);
        run.due("type(32)", 1);
        run.due("count(14)", 4).due("undo()", 3).due("count(0)", 1);
    }

    private static void undoEverythingButTheText() {
        Run run = new Run("everything before it but the text").due("weigh()", 0).typed("weigh;").due("play()", 1);
        run.due("undo()", 1).due("count(15)", 6).due("play()", 1).due("clearText()", 6).due("undo()", 1);
        run.due("count(15)", 0);
        run.typed("lift 9").due("undo()", 0).due("count(15)", 6).due("fault(2)", 6).due("clearText()", 6);
    }
}
