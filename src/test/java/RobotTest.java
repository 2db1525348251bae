/** Promises 4 to 9. */
public final class RobotTest {
    public static void main(String[] args) {
        promise4Lift();
        promise5Lay();
        promise6Weigh();
        promise7Turn();
        promise7TurnByWeight();
        promise7TurnTakesTime();
        promise8Mount();
        promise8MountServes();
        promise8MountWorn();
        promise9Take();
        Run.end();
    }

    private static void promise4Lift() {
        Run run = new Run("promise 4: lift");
        for (int shelf = 0; shelf < 4; shelf++) {
            run.due("bring(" + (shelf + 4) + ", 0, " + shelf + ")", shelf);
        }
        run.due("bring(9, 1, 0)", 4).due("weigh()", 0);
        run.error("lift(-1)", Run.INVALID).error("lift(4)", Run.INVALID).error("lift(2147483647)", Run.INVALID);
        run.due("lift(2)", 2).due("count(0)", 2).due("count(4)", 0).due("count(2)", 1).due("count(3)", 6);
        run.due("shelfOf(0, 2)", Run.NOT_FOUND).due("cartridgeOf(2, 2)", 1).due("cartridgeOf(2, 3)", 0);
        run.error("lift(2)", Run.NOT_POSSIBLE);
        run.due("lift(3)", 3).due("cartridgeOf(3, 3)", 1).due("lift(0)", 0).due("cartridgeOf(0, 3)", 2);
        run.due("count(2)", 3).due("count(3)", 17).due("count(0)", 4);
        run.error("lift(1)", Run.LIMIT).error("lift(2)", Run.NOT_POSSIBLE).error("lift(4)", Run.INVALID);
        run.due("weigh()", 17).error("lift(1)", Run.LIMIT).due("turn(1)", 1);
        run.error("lift(0)", Run.LIMIT).error("lift(1)", Run.NOT_POSSIBLE);
        run.due("lay(3)", 0).due("lift(0)", 4).due("cartridgeOf(4, 3)", 2).due("count(3)", 22);
    }

    private static void promise5Lay() {
        Run run = new Run("promise 5: lay");
        run.due("bring(8, 0, 0)", 0).due("bring(9, 0, 1)", 1).due("bring(2, 0, 2)", 2).due("weigh()", 0);
        run.error("lay(0)", Run.NOT_POSSIBLE).error("lay(3)", Run.NOT_POSSIBLE);
        run.error("lay(-1)", Run.INVALID).error("lay(4)", Run.INVALID);
        run.due("lift(1)", 1).due("lift(0)", 0).due("weigh()", 17).due("count(4)", 1);
        run.error("lay(2)", Run.NOT_POSSIBLE).error("lay(-2147483648)", Run.INVALID);
        run.due("lay(3)", 0).due("count(4)", 0).due("count(0)", 5).due("count(2)", 1).due("count(3)", 9);
        run.due("shelfOf(0, 3)", 0).due("cartridgeOf(0, 2)", 0).due("cartridgeOf(0, 3)", 3);
        run.error("lay(3)", Run.NOT_POSSIBLE);
        run.due("weigh()", 9).due("turn(-1)", 7).due("lay(2)", 1).due("shelfOf(7, 2)", 1).due("count(2)", 0);
        run.error("lay(0)", Run.NOT_POSSIBLE);
        Run last = new Run("promise 5: lay, empty pile beside full shelves");
        last.due("bring(8, 7, 3)", 0).due("bring(8, 7, 2)", 1).error("lay(0)", Run.NOT_POSSIBLE);
        last.due("weigh()", 0).due("turn(-2)", 6).error("mount(1)", Run.NOT_POSSIBLE).error("lay(3)", Run.NOT_POSSIBLE);
    }

    private static void promise6Weigh() {
        Run run = new Run("promise 6: weigh");
        run.due("weigh()", 0).due("count(0)", 1).due("count(4)", 1).due("count(14)", 1);
        run.due("weigh()", 0).due("count(0)", 2).due("count(4)", 1).due("count(14)", 2);
        run.due("bring(11, 0, 0)", 0).due("bring(20, 0, 1)", 1).due("lift(0)", 0).due("count(4)", 0);
        run.due("weigh()", 11).due("lift(1)", 1).due("weigh()", 31).due("count(4)", 1).due("lay(3)", 1);
        run.due("weigh()", 11).due("count(0)", 8);
    }

    private static void promise7Turn() {
        Run run = new Run("promise 7: turn");
        run.error("turn(1)", Run.NOT_POSSIBLE).due("weigh()", 0);
        run.error("turn(0)", Run.INVALID).error("turn(5)", Run.INVALID).error("turn(-5)", Run.INVALID);
        run.error("turn(-2147483648)", Run.INVALID).error("turn(2147483647)", Run.INVALID);
        run.due("turn(3)", 3).due("count(0)", 4).due("count(1)", 3).due("count(4)", 0).due("count(10)", 1);
        run.error("turn(1)", Run.NOT_POSSIBLE).error("turn(5)", Run.INVALID);
        run.due("weigh()", 0).due("turn(-4)", 7).due("count(0)", 9).due("count(10)", 2);
        run.due("weigh()", 0).due("turn(1)", 0).due("weigh()", 0).due("turn(-1)", 7);
        run.due("weigh()", 0).due("turn(4)", 3).due("weigh()", 0).due("turn(2)", 5);
        run.due("weigh()", 0).due("turn(3)", 0).due("weigh()", 0).due("turn(-3)", 5);
        run.due("weigh()", 0).due("turn(-2)", 3).due("count(10)", 9).due("count(14)", 4);
    }

    private static void promise7TurnByWeight() {
        Run run = new Run("promise 7: turn, by weight");
        run.due("bring(10, 0, 0)", 0).due("bring(1, 0, 1)", 1).due("bring(9, 0, 2)", 2).due("bring(1, 0, 3)", 3);
        run.due("lift(0)", 0).due("weigh()", 10).due("turn(4)", 4).due("weigh()", 10).due("turn(-4)", 0);
        run.due("lift(1)", 1).due("weigh()", 11).error("turn(3)", Run.NOT_POSSIBLE);
        run.error("turn(-3)", Run.NOT_POSSIBLE).error("turn(4)", Run.NOT_POSSIBLE).error("turn(5)", Run.INVALID);
        run.due("turn(-2)", 6).due("weigh()", 11).due("turn(2)", 0);
        run.due("lift(2)", 2).due("weigh()", 20).error("turn(3)", Run.NOT_POSSIBLE);
        run.due("turn(2)", 2).due("weigh()", 20).due("turn(-2)", 0);
        Run heavy = new Run("promise 7: turn, above 20");
        heavy.due("bring(20, 0, 0)", 0).due("bring(1, 0, 1)", 1).due("lift(0)", 0).due("lift(1)", 1);
        heavy.due("weigh()", 21).error("turn(2)", Run.NOT_POSSIBLE).error("turn(-2)", Run.NOT_POSSIBLE);
        heavy.due("turn(-1)", 7).error("turn(1)", Run.NOT_POSSIBLE).due("weigh()", 21).due("turn(1)", 0);
    }

    private static void promise7TurnTakesTime() {
        // For each wall 1 tick and as many more as the weight has full tens.
        int[][] piles = {{9, 0, 0, 4}, {10, 0, 0, 8}, {19, 0, 0, 4}, {20, 0, 0, 6}, {20, 9, 0, 3},
            {20, 10, 0, 4}, {20, 19, 0, 4}, {20, 20, 0, 5}, {20, 20, 9, 5}, {20, 20, 10, 6},
            {20, 20, 19, 6}, {20, 20, 20, 7}};
        for (int[] pile : piles) {
            Run run = new Run("promise 7: turn, ticks with " + pile[0] + ", " + pile[1] + ", " + pile[2]);
            int weight = 0;
            int calls = 0;
            for (int i = 0; i < 3; i++) {
                if (pile[i] > 0) {
                    run.due("bring(" + pile[i] + ", 0, " + i + ")", i).due("lift(" + i + ")", i);
                    weight += pile[i];
                    calls++;
                }
            }
            int walls = weight <= 10 ? 4 : weight <= 20 ? 2 : 1;
            run.due("weigh()", weight).due("turn(-" + walls + ")", 8 - walls);
            run.due("count(0)", calls + 1 + pile[3]);
        }
    }

    private static void promise8Mount() {
        Run run = new Run("promise 8: mount");
        run.due("bring(4, 2, 0)", 0).due("bring(5, 6, 0)", 1).due("bring(6, 2, 1)", 2).due("weigh()", 0);
        run.due("turn(2)", 2);
        run.error("mount(0)", Run.NOT_POSSIBLE).error("mount(-1)", Run.INVALID).error("mount(2)", Run.INVALID);
        run.due("lift(0)", 0).due("lift(1)", 2).due("weigh()", 10).due("count(0)", 6);
        run.error("mount(1)", Run.NOT_POSSIBLE).error("mount(2147483647)", Run.INVALID);
        run.due("mount(0)", 0).due("count(0)", 9).due("count(4)", 0).due("count(2)", 1).due("count(3)", 4);
        run.due("cartridgeOf(2, 1)", 1).due("cartridgeOf(2, 2)", 2).due("cartridgeOf(2, 3)", 0);
        run.due("count(11)", 2).due("count(12)", Run.NOT_FOUND).due("cartridgeOf(0, 1)", 0);
        run.error("mount(0)", Run.NOT_POSSIBLE);
        run.due("weigh()", 4).due("turn(1)", 3).error("mount(0)", Run.NOT_POSSIBLE);
        run.due("weigh()", 4).due("turn(3)", 6).error("mount(0)", Run.NOT_POSSIBLE);
        run.due("mount(1)", 0).due("count(12)", 0).due("cartridgeOf(0, 2)", 2).due("cartridgeOf(0, 3)", 1);
        run.due("cartridgeOf(0, 1)", 1).due("count(2)", 0).due("count(14)", 4);
    }

    private static void promise8MountServes() {
        Run run = new Run("promise 8: mount, requests");
        run.due("bring(4, 2, 0)", 0).due("bring(5, 2, 1)", 1).due("hold(0, 10)", -1).due("hold(0, 11)", -1);
        run.due("hold(1, 12)", -1).due("request(11, 3)", 1).due("request(12, 4)", 2).due("request(10, 5)", 3);
        run.due("request(40, 6)", 4).due("request(11, 7)", 5).due("weigh()", 0).due("turn(2)", 2);
        run.due("request(12, 8)", 6).due("lift(0)", 0).due("count(8)", 6).due("cartridgeOf(0, 5)", 3);
        run.due("mount(0)", 3).due("count(8)", 3).due("count(9)", 3).due("cartridgeOf(0, 6)", 3);
        run.due("requestOf(0, 0)", 12).due("requestOf(0, 1)", 4).due("requestOf(0, 2)", 0);
        run.due("requestOf(1, 0)", 40).due("requestOf(1, 1)", 6).due("requestOf(1, 2)", 0);
        run.due("requestOf(2, 0)", 12).due("requestOf(2, 1)", 8).due("requestOf(2, 2)", 3);
        run.due("requestOf(3, 0)", Run.NOT_FOUND).due("cartridgeOf(0, 5)", 0).due("cartridgeOf(1, 6)", 0);
        run.due("request(10, 1)", 4).due("take(0)", 0).due("mount(0)", 1).due("cartridgeOf(0, 6)", 4);
        run.due("take(0)", 0).due("mount(0)", 0).due("cartridgeOf(0, 1)", 3).due("count(9)", 4);
        run.due("undo()", 3).due("undo()", 2).due("undo()", 1).due("count(8)", 4).due("cartridgeOf(0, 6)", 3);
        run.due("count(9)", 3).due("cartridgeOf(0, 1)", 1);
    }

    private static void promise8MountWorn() {
        Run run = new Run("promise 8: mount, worn");
        run.due("bring(4, 6, 0)", 0).due("weigh()", 0).due("turn(-2)", 6).due("lift(0)", 0);
        for (int times = 1; times <= 6; times++) {
            run.due("count(7)", 0).due("mount(1)", 0).due("cartridgeOf(0, 1)", times).due("take(1)", 0);
        }
        run.due("count(7)", 1).error("mount(1)", Run.NOT_POSSIBLE).error("mount(2)", Run.INVALID);
        run.due("undo()", 3).due("count(7)", 1).due("undo()", 2).due("count(7)", 0).due("mount(1)", 0);
    }

    private static void promise9Take() {
        Run run = new Run("promise 9: take");
        run.due("bring(4, 2, 0)", 0).due("bring(5, 2, 1)", 1).due("bring(6, 2, 2)", 2).due("bring(7, 2, 3)", 3);
        run.error("take(0)", Run.NOT_POSSIBLE).error("take(-1)", Run.INVALID).error("take(2)", Run.INVALID);
        run.due("weigh()", 0).due("turn(2)", 2).error("take(0)", Run.NOT_POSSIBLE);
        run.due("lift(0)", 0).due("mount(0)", 0).due("weigh()", 0).due("count(0)", 8);
        run.error("take(1)", Run.NOT_POSSIBLE).error("take(-2147483648)", Run.INVALID);
        run.due("take(0)", 0).due("count(0)", 10).due("count(4)", 0).due("count(3)", 4).due("count(2)", 1);
        run.due("count(11)", Run.NOT_FOUND).due("cartridgeOf(0, 2)", 1).due("cartridgeOf(0, 3)", 0);
        run.due("cartridgeOf(0, 1)", 1).due("mount(0)", 0).due("lift(1)", 1).due("lift(2)", 2);
        run.due("take(0)", 0).due("cartridgeOf(0, 3)", 2).due("mount(0)", 0).due("lift(3)", 3);
        run.error("take(0)", Run.LIMIT).error("take(1)", Run.NOT_POSSIBLE).error("take(2)", Run.INVALID);
        run.due("weigh()", 18).due("turn(-1)", 1).error("take(0)", Run.NOT_POSSIBLE);
        Run other = new Run("promise 9: take, drive 1");
        other.due("bring(4, 6, 3)", 0).due("weigh()", 0).due("turn(-2)", 6).due("lift(3)", 0).due("mount(1)", 0);
        other.error("take(0)", Run.NOT_POSSIBLE).due("take(1)", 0).due("lay(0)", 0).error("take(1)", Run.NOT_POSSIBLE);
    }
}
