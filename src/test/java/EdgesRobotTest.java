/** The edges of the promises 4 to 9, and of what the robot does: a test for each sentence that names one. */
public final class EdgesRobotTest {
    public static void main(String[] args) {
        liftShelf();
        liftShelfEmpty();
        liftPileOfThree();
        liftOfTheWallOfTheMast();
        liftTakesOneTick();
        liftErrorsInOrder();
        layShelf();
        layPileEmpty();
        layShelfNotEmpty();
        layTopOfThePile();
        layTakesOneTick();
        layErrorsInOrder();
        weighEmptyPallet();
        weighHeaviestPile();
        weighAlsoIfWeighed();
        weighedUntil();
        weighedStays();
        turnWalls();
        turnAround();
        turnNotWeighed();
        turnUpToTen();
        turnUpToTwenty();
        turnAboveTwenty();
        turnTicks();
        turnErrorsInOrder();
        mountDrive();
        mountAtItsWall();
        mountPileEmpty();
        mountDriveNotEmpty();
        mountWorn();
        mountWornBelowTheTop();
        mountTopOfThePile();
        mountTakesThreeTicks();
        mountServesNoRequest();
        mountServesAllThatWait();
        mountErrorsInOrder();
        takeDrive();
        takeAtItsWall();
        takeDriveEmpty();
        takePileOfThree();
        takeWorn();
        takeTakesTwoTicks();
        takeErrorsInOrder();
        Run.end();
    }

    private static Run fourAt(int wall, String name) {
        Run run = new Run(name);
        for (int shelf = 0; shelf < 4; shelf++) {
            run.due("bring(3, " + wall + ", " + shelf + ")", shelf);
        }
        return run;
    }

    private static void liftShelf() {
        Run run = fourAt(0, "promise 4: shelf: 0 to 3").range("lift(#)", 0, 3);
        run.due("lift(0)", 0).due("lay(0)", 0).due("lift(3)", 3).due("lay(3)", 3).due("lift(1)", 1).due("lift(2)", 2);
        run.range("lift(#)", 0, 3);
    }

    private static void liftShelfEmpty() {
        Run run = new Run("promise 4: NOT_POSSIBLE if the shelf is empty");
        for (int shelf = 0; shelf <= 3; shelf++) {
            run.error("lift(" + shelf + ")", Run.NOT_POSSIBLE);
        }
        run.due("bring(3, 0, 1)", 0).error("lift(0)", Run.NOT_POSSIBLE).error("lift(2)", Run.NOT_POSSIBLE);
        run.due("lift(1)", 0).error("lift(1)", Run.NOT_POSSIBLE).due("lay(2)", 0).error("lift(1)", Run.NOT_POSSIBLE);
        run.due("send(0, -1, -1)", 1).error("lift(2)", Run.NOT_POSSIBLE);
    }

    private static void liftPileOfThree() {
        Run run = fourAt(0, "promise 4: LIMIT_REACHED if the pile has 3 cartridges");
        run.due("lift(3)", 3).due("lift(1)", 1).due("lift(0)", 0).due("count(2)", 3).error("lift(2)", Run.LIMIT);
        run.told("cartridgeOf(3, ", 3, 0, 1, 0).told("cartridgeOf(1, ", 3, 0, 1, 1).told("cartridgeOf(0, ", 3, 0, 1, 2);
        run.due("lay(0)", 0).due("lift(2)", 2).told("cartridgeOf(2, ", 3, 0, 1, 2).error("lift(0)", Run.LIMIT);
    }

    private static void liftOfTheWallOfTheMast() {
        Run run = fourAt(0, "promise 4: of the wall at which the mast looks");
        run.due("bring(4, 7, 0)", 4).due("bring(5, 1, 0)", 5).due("weigh()", 0).due("turn(-1)", 7).due("lift(0)", 4);
        run.error("lift(1)", Run.NOT_POSSIBLE).due("weigh()", 4).due("turn(2)", 1).due("lift(0)", 5);
        run.due("shelfOf(0, 0)", 0).due("shelfOf(7, 0)", Run.NOT_FOUND).due("shelfOf(1, 0)", Run.NOT_FOUND);
    }

    private static void liftTakesOneTick() {
        Run run = fourAt(0, "promise 4: it takes 1 tick");
        run.due("lift(0)", 0).due("count(0)", 1).due("lift(1)", 1).due("count(0)", 2).due("lift(2)", 2);
        run.due("count(0)", 3);
        run.due("lift(3)", Run.LIMIT).due("lift(0)", Run.NOT_POSSIBLE).due("lift(4)", Run.INVALID).due("count(0)", 3);
    }

    private static void liftErrorsInOrder() {
        Run run = fourAt(0, "promise 4: several errors");
        run.due("lift(0)", 0).due("lift(1)", 1).due("lift(2)", 2);
        run.error("lift(0)", Run.NOT_POSSIBLE).error("lift(4)", Run.INVALID).error("lift(-1)", Run.INVALID);
        run.error("lift(3)", Run.LIMIT);
    }

    private static void layShelf() {
        Run run = fourAt(0, "promise 5: shelf: 0 to 3").range("lay(#)", 0, 3).due("lift(0)", 0).due("lift(3)", 3);
        run.range("lay(#)", 0, 3).due("lay(0)", 3).due("lay(3)", 0).due("shelfOf(0, 0)", 3).due("shelfOf(0, 3)", 0);
    }

    private static void layPileEmpty() {
        Run run = new Run("promise 5: NOT_POSSIBLE if the pile is empty");
        run.error("lay(0)", Run.NOT_POSSIBLE).error("lay(3)", Run.NOT_POSSIBLE).due("bring(3, 0, 2)", 0);
        run.error("lay(0)", Run.NOT_POSSIBLE).error("lay(2)", Run.NOT_POSSIBLE).due("lift(2)", 0).due("lay(2)", 0);
        run.error("lay(0)", Run.NOT_POSSIBLE).due("lift(2)", 0).due("weigh()", 3).due("turn(2)", 2).due("mount(0)", 0);
        run.error("lay(0)", Run.NOT_POSSIBLE);
        Run full = new Run("promise 5: NOT_POSSIBLE if the pile is empty, whatever is elsewhere");
        for (int cartridge = 0; cartridge < 30; cartridge++) {
            full.due("bring(3, " + (7 - cartridge / 4) + ", " + (3 - cartridge % 4) + ")", cartridge);
        }
        full.error("lay(0)", Run.NOT_POSSIBLE).error("lay(1)", Run.NOT_POSSIBLE).error("lay(3)", Run.NOT_POSSIBLE);
    }

    private static void layShelfNotEmpty() {
        Run run = fourAt(0, "promise 5: NOT_POSSIBLE if the shelf is not empty").due("lift(2)", 2);
        run.error("lay(0)", Run.NOT_POSSIBLE).error("lay(1)", Run.NOT_POSSIBLE).error("lay(3)", Run.NOT_POSSIBLE);
        run.due("bring(3, 0, 2)", 4).error("lay(2)", Run.NOT_POSSIBLE).due("send(4, -1, -1)", 1).due("lay(2)", 2);
    }

    private static void layTopOfThePile() {
        Run run = fourAt(0, "promise 5: the top of the pile comes onto an empty shelf of this wall");
        run.due("lift(0)", 0).due("lift(2)", 2).due("lift(1)", 1).due("weigh()", 9).due("turn(1)", 1);
        run.due("lay(0)", 1).due("count(2)", 2).due("lay(3)", 2).due("count(2)", 1).due("lay(1)", 0).due("count(2)", 0);
        run.due("shelfOf(1, 0)", 1).due("shelfOf(1, 3)", 2).due("shelfOf(1, 1)", 0).due("shelfOf(0, 0)", Run.NOT_FOUND);
    }

    private static void layTakesOneTick() {
        Run run = fourAt(0, "promise 5: it takes 1 tick").due("lift(0)", 0).due("lift(1)", 1).due("count(0)", 2);
        run.due("lay(1)", 1).due("count(0)", 3).due("lay(0)", 0).due("count(0)", 4).due("lay(0)", Run.NOT_POSSIBLE);
        run.due("lay(4)", Run.INVALID).due("count(0)", 4);
    }

    private static void layErrorsInOrder() {
        Run run = new Run("promise 5: INVALID_ARGUMENT rather than NOT_POSSIBLE");
        run.error("lay(-1)", Run.INVALID).error("lay(4)", Run.INVALID);
    }

    private static void weighEmptyPallet() {
        Run run = new Run("promise 6: the weight of the pile, empty");
        run.due("weigh()", 0).due("count(3)", 0).due("bring(20, 0, 0)", 0).due("weigh()", 0).due("lift(0)", 0);
        run.due("weigh()", 20).due("lay(0)", 0).due("weigh()", 0);
    }

    private static void weighHeaviestPile() {
        Run run = new Run("promise 6: the weight of the pile, one to three cartridges");
        run.due("bring(20, 0, 0)", 0).due("bring(20, 0, 1)", 1).due("bring(20, 0, 2)", 2).due("bring(1, 0, 3)", 3);
        run.due("lift(3)", 3).due("weigh()", 1).due("lay(3)", 3).due("lift(0)", 0).due("weigh()", 20).due("lift(1)", 1);
        run.due("weigh()", 40).due("lift(2)", 2).due("weigh()", 60).due("count(3)", 60).due("lay(1)", 2);
        run.due("weigh()", 40);
    }

    private static void weighAlsoIfWeighed() {
        Run run = new Run("promise 6: also if it is weighed");
        for (int ticks = 1; ticks <= 5; ticks++) {
            run.due("weigh()", 0).due("count(0)", ticks).due("count(4)", 1).due("count(14)", Math.min(4, ticks));
        }
        run.due("undo()", 3).due("count(0)", 4).due("count(4)", 1);
    }

    private static void weighedUntil() {
        Run run = fourAt(2, "it is weighed until something comes onto the pile or leaves it, or the mast turns");
        run.due("weigh()", 0).due("count(4)", 1).due("turn(2)", 2).due("count(4)", 0);
        run.due("weigh()", 0).due("count(4)", 1).due("lift(0)", 0).due("count(4)", 0);
        run.due("weigh()", 3).due("count(4)", 1).due("lay(0)", 0).due("count(4)", 0).due("lift(1)", 1);
        run.due("weigh()", 3).due("count(4)", 1).due("mount(0)", 0).due("count(4)", 0);
        run.due("weigh()", 0).due("count(4)", 1).due("take(0)", 1).due("count(4)", 0);
        run.due("weigh()", 3).due("count(4)", 1).due("turn(-4)", 6).due("count(4)", 0);
    }

    private static void weighedStays() {
        Run run = fourAt(0, "it is weighed from then on").due("weigh()", 0);
        run.due("bring(5, 1, 1)", 4).due("send(4, -1, -1)", 1).due("send(4, 3, 1)", 0).due("hold(4, 4)", -1);
        run.due("request(4, 4)", 1).due("would(0, 4)", 4).due("wayTo(3)", 4).due("wholeBatch(0, 1)", 1);
        run.due("count(4)", 1);
        run.error("lay(0)", Run.NOT_POSSIBLE).error("turn(5)", Run.INVALID).error("take(0)", Run.NOT_POSSIBLE);
        run.error("mount(1)", Run.NOT_POSSIBLE).due("play()", 0).due("count(4)", 1).due("turn(4)", 4);
        run.due("undo()", 3).due("count(4)", 1).due("undo()", 2).due("count(4)", 1).due("turn(1)", 1);
    }

    private static void turnWalls() {
        Run run = new Run("promise 7: walls: 1 to 4: to the right; -1 to -4: to the left").due("weigh()", 0);
        run.range("turn(#)", -4, 4).error("turn(0)", Run.INVALID).error("turn(-5)", Run.INVALID);
        run.error("turn(5)", Run.INVALID);
        run.due("turn(4)", 4).due("weigh()", 0).due("turn(-4)", 0).due("weigh()", 0).due("turn(1)", 1);
        run.due("weigh()", 0);
        run.due("turn(-1)", 0).due("weigh()", 0).due("turn(3)", 3).due("weigh()", 0).due("turn(-3)", 0);
        run.due("count(10)", 6);
    }

    private static void turnAround() {
        for (int from = 0; from < 8; from++) {
            for (int walls = -4; walls <= 4; walls++) {
                if (walls != 0) {
                    Run run = new Run("promise 7: 0 is behind 7, from the wall " + from).due("weigh()", 0);
                    int first = from > 4 ? from - 8 : from;
                    if (first != 0) {
                        run.due("turn(" + first + ")", from).due("weigh()", 0);
                    }
                    run.due("turn(" + walls + ")", Math.floorMod(from + walls, 8));
                    run.due("count(1)", Math.floorMod(from + walls, 8));
                }
            }
        }
    }

    private static void turnNotWeighed() {
        Run run = fourAt(2, "promise 7: NOT_POSSIBLE if the pallet is not weighed").error("turn(1)", Run.NOT_POSSIBLE);
        run.due("weigh()", 0).due("turn(2)", 2).error("turn(1)", Run.NOT_POSSIBLE).error("turn(-1)", Run.NOT_POSSIBLE);
        run.due("weigh()", 0).due("lift(0)", 0).error("turn(1)", Run.NOT_POSSIBLE);
        run.due("weigh()", 3).due("lay(0)", 0).error("turn(1)", Run.NOT_POSSIBLE).due("lift(0)", 0);
        run.due("weigh()", 3).due("mount(0)", 0).error("turn(-4)", Run.NOT_POSSIBLE);
        run.due("weigh()", 0).due("take(0)", 0).error("turn(4)", Run.NOT_POSSIBLE).due("weigh()", 3).due("turn(4)", 6);
    }

    /** A pile of a weight, of as few cartridges as can be, weighed. */
    private static Run pile(int weight, String name) {
        Run run = new Run(name + ", weight " + weight);
        int left = weight;
        for (int cartridge = 0; left > 0; cartridge++) {
            run.due("bring(" + Math.min(left, 20) + ", 0, " + cartridge + ")", cartridge);
            run.due("lift(" + cartridge + ")", cartridge);
            left -= Math.min(left, 20);
        }
        return run.due("weigh()", weight);
    }

    private static void turnUpToTen() {
        for (int weight : new int[] {0, 1, 9, 10}) {
            pile(weight, "promise 7: if the weight of the pile is up to 10, by 4 walls at most").due("turn(4)", 4);
            pile(weight, "promise 7: if the weight of the pile is up to 10, by 4 walls at most").due("turn(-4)", 4);
            pile(weight, "promise 7: if the weight of the pile is up to 10, by 3 walls too").due("turn(-3)", 5);
        }
    }

    private static void turnUpToTwenty() {
        for (int weight : new int[] {11, 12, 19, 20}) {
            Run run = pile(weight, "promise 7: up to 20 by 2");
            run.error("turn(3)", Run.NOT_POSSIBLE).error("turn(-3)", Run.NOT_POSSIBLE);
            run.error("turn(4)", Run.NOT_POSSIBLE);
            run.error("turn(-4)", Run.NOT_POSSIBLE).due("turn(2)", 2).due("weigh()", weight).due("turn(-2)", 0);
            run.due("weigh()", weight).due("turn(1)", 1).due("weigh()", weight).due("turn(-1)", 0);
        }
    }

    private static void turnAboveTwenty() {
        for (int weight : new int[] {21, 22, 30, 40, 41, 60}) {
            Run run = pile(weight, "promise 7: above that by 1");
            run.error("turn(2)", Run.NOT_POSSIBLE).error("turn(-2)", Run.NOT_POSSIBLE);
            run.error("turn(3)", Run.NOT_POSSIBLE);
            run.error("turn(4)", Run.NOT_POSSIBLE).error("turn(-4)", Run.NOT_POSSIBLE);
            run.due("turn(1)", 1).due("weigh()", weight).due("turn(-1)", 0);
        }
    }

    private static void turnTicks() {
        int[][] cases = {{0, 4, 4}, {1, 4, 4}, {9, 4, 4}, {9, 1, 1}, {10, 4, 8}, {10, 1, 2}, {10, -3, 6}, {11, 2, 4},
            {19, 2, 4}, {19, -1, 2}, {20, 2, 6}, {20, -1, 3}, {21, 1, 3}, {29, -1, 3}, {30, 1, 4}, {39, 1, 4}, {40, -1, 5},
            {49, 1, 5}, {50, 1, 6}, {59, -1, 6}, {60, 1, 7}, {60, -1, 7}};
        for (int[] each : cases) {
            Run run = pile(each[0], "promise 7: for each wall, 1 tick and as many more as the weight has full tens");
            int before = (each[0] + 19) / 20 + 1;
            run.due("count(0)", before).due("turn(" + each[1] + ")", Math.floorMod(each[1], 8));
            run.due("count(0)", before + each[2]).due("count(10)", 1);
        }
    }

    private static void turnErrorsInOrder() {
        Run run = new Run("promise 7: INVALID_ARGUMENT rather than NOT_POSSIBLE");
        run.error("turn(0)", Run.INVALID).error("turn(5)", Run.INVALID).error("turn(-5)", Run.INVALID);
        Run heavy = pile(21, "promise 7: INVALID_ARGUMENT rather than NOT_POSSIBLE, too heavy");
        heavy.error("turn(0)", Run.INVALID).error("turn(5)", Run.INVALID).error("turn(-5)", Run.INVALID);
    }

    private static void mountDrive() {
        Run run = fourAt(2, "promise 8: drive: 0 or 1").range("mount(#)", 0, 1).due("weigh()", 0).due("turn(2)", 2);
        run.due("lift(0)", 0).due("lift(1)", 1).range("mount(#)", 0, 1).due("mount(0)", 0).due("count(11)", 1);
        run.due("count(12)", Run.NOT_FOUND).due("weigh()", 3).due("turn(4)", 6).range("mount(#)", 0, 1);
        run.due("mount(1)", 0).due("count(12)", 0).due("count(11)", 1);
    }

    private static void mountAtItsWall() {
        Run run = fourAt(0, "promise 8: NOT_POSSIBLE if the mast does not look at its wall").due("lift(0)", 0);
        for (int wall = 0; wall < 8; wall++) {
            if (wall != 2) {
                run.error("mount(0)", Run.NOT_POSSIBLE);
            }
            if (wall != 6) {
                run.error("mount(1)", Run.NOT_POSSIBLE);
            }
            run.due("weigh()", 3).due("turn(1)", (wall + 1) % 8);
        }
    }

    private static void mountPileEmpty() {
        Run run = fourAt(2, "promise 8: NOT_POSSIBLE if the pile is empty").due("weigh()", 0).due("turn(2)", 2);
        run.error("mount(0)", Run.NOT_POSSIBLE).due("lift(0)", 0).due("lay(0)", 0).error("mount(0)", Run.NOT_POSSIBLE);
        run.due("weigh()", 0).due("turn(4)", 6).error("mount(1)", Run.NOT_POSSIBLE);
        run.due("bring(3, 7, 3)", 4).error("mount(1)", Run.NOT_POSSIBLE).due("weigh()", 0).due("turn(-4)", 2);
        run.error("mount(0)", Run.NOT_POSSIBLE).due("lift(1)", 1).due("mount(0)", 0).due("weigh()", 0);
        run.due("turn(4)", 6);
        run.error("mount(1)", Run.NOT_POSSIBLE).due("count(2)", 0);
    }

    private static void mountDriveNotEmpty() {
        Run run = fourAt(2, "promise 8: NOT_POSSIBLE if the drive is not empty").due("weigh()", 0).due("turn(2)", 2);
        run.due("lift(0)", 0).due("lift(1)", 1).due("lift(2)", 2).due("mount(0)", 0);
        run.error("mount(0)", Run.NOT_POSSIBLE);
        run.due("weigh()", 6).due("turn(4)", 6).due("mount(1)", 0).error("mount(1)", Run.NOT_POSSIBLE);
        run.due("take(1)", 1).due("mount(1)", 0).error("mount(1)", Run.NOT_POSSIBLE).due("count(11)", 2);
    }

    private static Run wear(int times, String name) {
        Run run = fourAt(2, name).due("weigh()", 0).due("turn(2)", 2).due("lift(0)", 0);
        for (int wear = 1; wear <= times; wear++) {
            run.due("mount(0)", 0).due("cartridgeOf(0, 1)", wear).due("take(0)", 0).due("cartridgeOf(0, 1)", wear);
        }
        return run;
    }

    private static void mountWorn() {
        Run run = wear(5, "promise 8: NOT_POSSIBLE if the cartridge is worn").due("count(7)", 0).due("mount(0)", 0);
        run.due("cartridgeOf(0, 1)", 6).due("count(7)", 1).due("take(0)", 0).error("mount(0)", Run.NOT_POSSIBLE);
        run.due("weigh()", 3).due("turn(4)", 6).error("mount(1)", Run.NOT_POSSIBLE).due("lay(0)", 0).due("lift(0)", 0);
        run.error("mount(1)", Run.NOT_POSSIBLE).due("lay(0)", 0).due("send(0, -1, -1)", 1).due("send(0, 6, 0)", 0);
        run.due("cartridgeOf(0, 1)", 6).due("lift(0)", 0).error("mount(1)", Run.NOT_POSSIBLE);
    }

    private static void mountWornBelowTheTop() {
        Run run = wear(6, "promise 8: a worn cartridge below the top of the pile").due("lift(1)", 1).due("mount(0)", 0);
        run.due("count(11)", 1).error("mount(0)", Run.NOT_POSSIBLE).due("take(0)", 1).due("lay(1)", 1);
        run.error("mount(0)", Run.NOT_POSSIBLE);
    }

    private static void mountTopOfThePile() {
        Run run = fourAt(2, "promise 8: mounts the top of the pile").due("weigh()", 0).due("turn(2)", 2);
        run.due("lift(3)", 3).due("lift(1)", 1).due("lift(2)", 2).due("mount(0)", 0).due("count(11)", 2);
        run.due("count(2)", 2);
        run.told("cartridgeOf(2, ", 3, 1, 2, 0).told("cartridgeOf(1, ", 3, 0, 1, 1).told("cartridgeOf(3, ", 3, 0, 1, 0);
        run.due("take(0)", 2).due("lay(2)", 2).due("mount(0)", 0).due("count(11)", 1).due("count(3)", 3);
    }

    private static void mountTakesThreeTicks() {
        Run run = fourAt(2, "promise 8: it takes 3 ticks").due("weigh()", 0).due("turn(2)", 2).due("lift(0)", 0);
        run.due("count(0)", 4).due("mount(0)", 0).due("count(0)", 7).due("mount(0)", Run.NOT_POSSIBLE);
        run.due("count(0)", 7);
    }

    private static void mountServesNoRequest() {
        Run run = fourAt(2, "promise 8: how many requests are served by it, none").due("hold(1, 5)", -1);
        run.due("request(5, 0)", 1).due("request(6, 0)", 2).due("weigh()", 0).due("turn(2)", 2).due("lift(0)", 0);
        run.due("mount(0)", 0).due("count(8)", 2).due("count(9)", 0).due("cartridgeOf(0, 6)", 0);
        run.due("requestOf(0, 0)", 5);
        run.due("take(0)", 0).due("hold(0, 5)", 1).due("count(8)", 2).due("mount(0)", 1).due("count(8)", 1);
        run.due("requestOf(0, 0)", 6).due("count(9)", 1);
    }

    private static void mountServesAllThatWait() {
        Run run = fourAt(2, "promise 8: all requests that wait for files that it holds are served");
        for (int file = 0; file < 4; file++) {
            run.due("hold(0, " + file + ")", -1);
        }
        for (int waiting = 1; waiting <= 12; waiting++) {
            run.due("request(" + waiting % 4 + ", " + waiting % 10 + ")", waiting);
        }
        run.due("weigh()", 0).due("turn(2)", 2).due("lift(0)", 0);
        Run some = run.again("promise 8: they wait no more, others do").due("hold(1, 2)", 0);
        run.due("mount(0)", 12).due("count(8)", 0).due("count(9)", 12).due("cartridgeOf(0, 6)", 12);
        run.due("cartridgeOf(0, 5)", 0);
        run.error("requestOf(0, 0)", Run.NOT_FOUND).due("request(0, 0)", 1).due("take(0)", 0).due("mount(0)", 1);
        some.due("mount(0)", 9).due("count(8)", 3).due("count(9)", 9).told("requestOf(0, ", 2, 2, 0);
        some.told("requestOf(1, ", 2, 6, 0).told("requestOf(2, ", 2, 0, 0).error("requestOf(3, 0)", Run.NOT_FOUND);
        some.due("request(9, 9)", 4).told("requestOf(3, ", 9, 9, 7);
    }

    private static void mountErrorsInOrder() {
        Run run = wear(6, "promise 8: INVALID_ARGUMENT rather than NOT_POSSIBLE");
        run.error("mount(-1)", Run.INVALID).error("mount(2)", Run.INVALID).due("lay(0)", 0);
        run.error("mount(2)", Run.INVALID);
        run.due("weigh()", 0).due("turn(1)", 3).error("mount(-1)", Run.INVALID).error("mount(6)", Run.INVALID);
    }

    private static void takeDrive() {
        Run run = fourAt(2, "promise 9: drive: 0 or 1").range("take(#)", 0, 1).due("weigh()", 0).due("turn(2)", 2);
        run.due("lift(0)", 0).due("lift(1)", 1).due("mount(0)", 0).range("take(#)", 0, 1).due("take(0)", 1);
        run.due("mount(0)", 0).due("weigh()", 3).due("turn(-4)", 6).due("mount(1)", 0).range("take(#)", 0, 1);
        run.due("take(1)", 0).due("count(11)", 1).due("count(12)", Run.NOT_FOUND);
    }

    private static void takeAtItsWall() {
        Run run = fourAt(2, "promise 9: NOT_POSSIBLE if the mast does not look at its wall").due("weigh()", 0);
        run.due("turn(2)", 2).due("lift(0)", 0).due("lift(1)", 1).due("mount(0)", 0).due("weigh()", 3);
        run.due("turn(4)", 6);
        run.due("mount(1)", 0);
        for (int step = 0; step < 8; step++) {
            int wall = (6 + step) % 8;
            if (wall != 2) {
                run.error("take(0)", Run.NOT_POSSIBLE);
            }
            if (wall != 6) {
                run.error("take(1)", Run.NOT_POSSIBLE);
            }
            run.due("weigh()", 0).due("turn(1)", (wall + 1) % 8);
        }
        run.due("take(1)", 0);
    }

    private static void takeDriveEmpty() {
        Run run = fourAt(2, "promise 9: NOT_POSSIBLE if the drive is empty").due("weigh()", 0).due("turn(2)", 2);
        run.error("take(0)", Run.NOT_POSSIBLE).due("lift(0)", 0).error("take(0)", Run.NOT_POSSIBLE).due("mount(0)", 0);
        run.due("take(0)", 0).error("take(0)", Run.NOT_POSSIBLE).due("mount(0)", 0).due("weigh()", 0).due("turn(4)", 6);
        run.error("take(1)", Run.NOT_POSSIBLE);
    }

    private static Run fullPile(String name) {
        Run run = fourAt(2, name).due("bring(4, 1, 0)", 4).due("weigh()", 0).due("turn(2)", 2).due("lift(0)", 0);
        return run.due("mount(0)", 0).due("lift(1)", 1).due("lift(2)", 2);
    }

    private static void takePileOfThree() {
        Run run = fullPile("promise 9: LIMIT_REACHED if the pile has 3 cartridges").due("count(2)", 2);
        run.due("take(0)", 0);
        run.told("cartridgeOf(0, ", 3, 1, 1, 2).due("mount(0)", 0).due("lift(3)", 3).error("take(0)", Run.LIMIT);
        run.due("weigh()", 9).error("take(0)", Run.LIMIT).due("lay(3)", 3).due("take(0)", 0).due("count(2)", 3);
    }

    private static void takeWorn() {
        Run run = wear(5, "promise 9: takes a worn cartridge out").due("mount(0)", 0).due("take(0)", 0);
        run.told("cartridgeOf(0, ", 3, 6, 1, 0).due("lay(3)", Run.NOT_POSSIBLE).due("lay(0)", 0);
    }

    private static void takeTakesTwoTicks() {
        Run run = fourAt(2, "promise 9: it takes 2 ticks").due("weigh()", 0).due("turn(2)", 2).due("lift(0)", 0);
        run.due("mount(0)", 0).due("count(0)", 7).due("take(0)", 0).due("count(0)", 9).due("take(0)", Run.NOT_POSSIBLE);
        run.due("count(0)", 9).due("cartridgeOf(0, 1)", 1).due("count(3)", 3);
    }

    private static void takeErrorsInOrder() {
        Run run = fullPile("promise 9: several errors").due("lift(3)", 3);
        run.error("take(0)", Run.LIMIT).error("take(1)", Run.NOT_POSSIBLE).error("take(2)", Run.INVALID);
        run.error("take(-1)", Run.INVALID).due("weigh()", 9).due("turn(-1)", 1).error("take(0)", Run.NOT_POSSIBLE);
        run.error("take(2)", Run.INVALID).due("weigh()", 9).due("turn(-3)", 6).error("take(1)", Run.NOT_POSSIBLE);
        Run empty = new Run("promise 9: INVALID_ARGUMENT rather than NOT_POSSIBLE");
        empty.error("take(2)", Run.INVALID).error("take(-1)", Run.INVALID);
    }
}
