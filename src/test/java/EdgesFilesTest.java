/** The edges of the promises 10 to 12: a test for each sentence that names one. */
public final class EdgesFilesTest {
    private static final int[] AROUND = {0, 1, -1, 2, -2, 3, -3, 4};

    public static void main(String[] args) {
        holdCartridge();
        holdFile();
        holdFourOthers();
        holdByOneCartridgeAtMost();
        holdWhoHeldIt();
        holdWithANeighbor();
        holdWhereverElseItIs();
        holdErrorsInOrder();
        requestFile();
        requestRank();
        requestTwelve();
        requestNothingElseHappens();
        requestTheTick();
        requestErrorsInOrder();
        serveRule();
        servePalletEmpty();
        serveNoNextRequest();
        serveCartridgeElsewhere();
        serveWorn();
        serveNearerDriveOfBoth();
        serveNearerToTheCartridgeNotToTheMast();
        serveTheOneThatIsEmpty();
        serveMountedLongestAgo();
        serveMountedLongestAgoAfterUndo();
        serveLowestEmptyShelf();
        serveNearestWallWithAnEmptyShelf();
        serveShelfOfItsOwnWallStaysFull();
        serveNearestFromTheWallOfTheDrive();
        serveWornOneTakenOut();
        serveWeighsAlsoIfWeighed();
        serveAtTheWallAlready();
        serveWeightOfTheCartridgeTakenOut();
        serveByWeight();
        serveHowMany();
        serveIsOneChange();
        serveErrorsInOrder();
        Run.end();
    }

    private static void holdCartridge() {
        new Run("promise 10: if there is no cartridge with a certain number, none at all").error("hold(0, 0)", Run.INVALID);
        Run run = new Run("promise 10: number of the cartridge").due("bring(3, 0, 0)", 0).due("bring(3, 0, 1)", 1);
        run.range("hold(#, 0)", 0, 1).range("hold(#, 59)", 0, 1).due("hold(0, 7)", -1).due("hold(1, 8)", -1);
        run.due("undo()", 3).due("undo()", 2).due("undo()", 1).error("hold(1, 7)", Run.INVALID).due("hold(0, 7)", -1);
    }

    private static void holdFile() {
        Run run = new Run("promise 10: file: 0 to 59").due("bring(3, 0, 0)", 0).range("hold(0, #)", 0, 59);
        run.due("hold(0, 0)", -1).due("hold(0, 59)", -1).due("hold(0, 1)", -1).due("hold(0, 58)", -1);
        run.due("holder(0)", 0).due("holder(59)", 0).due("holder(1)", 0).due("holder(58)", 0);
        run.range("hold(0, #)", 0, 59);
    }

    private static Run fourHeld(String name) {
        Run run = new Run(name).due("bring(3, 0, 0)", 0).due("bring(3, 0, 1)", 1).due("hold(1, 20)", -1);
        for (int file = 10; file <= 13; file++) {
            run.due("hold(0, " + file + ")", -1);
        }
        return run;
    }

    private static void holdFourOthers() {
        Run run = fourHeld("promise 10: LIMIT_REACHED if it holds 4 others").due("cartridgeOf(0, 4)", 4);
        run.error("hold(0, 14)", Run.LIMIT).error("hold(0, 20)", Run.LIMIT).error("hold(0, 0)", Run.LIMIT);
        for (int file = 10; file <= 13; file++) {
            run.due("hold(0, " + file + ")", 0);
        }
        run.due("hold(1, 12)", 0).due("hold(0, 20)", 1).error("hold(0, 12)", Run.LIMIT).due("cartridgeOf(1, 4)", 1);
    }

    private static void holdByOneCartridgeAtMost() {
        Run run = fourHeld("promise 10: which is held by no other one then").due("hold(1, 11)", 0).due("holder(11)", 1);
        run.due("cartridgeOf(0, 4)", 3).due("cartridgeOf(1, 4)", 2).due("count(13)", 5).due("request(11, 0)", 1);
        run.due("cartridgeOf(0, 5)", 0).due("cartridgeOf(1, 5)", 1).due("hold(0, 11)", 1).due("cartridgeOf(0, 5)", 1);
        run.due("cartridgeOf(1, 5)", 0).due("count(13)", 5);
    }

    private static void holdWhoHeldIt() {
        Run run = new Run("promise 10: returns the cartridge that held it, this one too, or -1");
        run.due("bring(3, 0, 0)", 0).due("bring(3, 0, 1)", 1).due("hold(0, 5)", -1).due("count(14)", 3);
        run.due("hold(0, 5)", 0).due("count(14)", 4).due("hold(1, 5)", 0).due("hold(1, 5)", 1).due("hold(0, 5)", 1);
        run.due("undo()", 3).due("holder(5)", 1).due("undo()", 2).due("holder(5)", 1).due("undo()", 1);
        run.due("holder(5)", 0);
        run.due("undo()", 0).due("holder(5)", 0);
    }

    private static void holdWithANeighbor() {
        Run run = fourHeld("promise 10: NOT_POSSIBLE if the cartridge is with a neighbor").due("send(1, -1, -1)", 1);
        run.error("hold(1, 0)", Run.NOT_POSSIBLE).error("hold(1, 20)", Run.NOT_POSSIBLE);
        run.error("hold(1, 10)", Run.NOT_POSSIBLE);
        run.due("hold(1, 59)", Run.NOT_POSSIBLE).due("send(1, 3, 3)", 0).due("hold(1, 10)", 0);
        Run from = fourHeld("promise 10: from a cartridge that is with a neighbor").due("send(0, -1, -1)", 1);
        from.due("hold(1, 10)", 0).due("holder(10)", 1).due("cartridgeOf(0, 4)", 3);
    }

    private static void holdWhereverElseItIs() {
        Run run = new Run("promise 10: on the pallet, in a drive").due("bring(3, 2, 0)", 0).due("weigh()", 0);
        run.due("turn(2)", 2).due("lift(0)", 0).due("hold(0, 1)", -1).due("mount(0)", 0).due("hold(0, 2)", -1);
        run.due("cartridgeOf(0, 4)", 2).due("count(0)", 7);
    }

    private static void holdErrorsInOrder() {
        Run run = fourHeld("promise 10: several errors");
        run.error("hold(0, 60)", Run.INVALID).error("hold(0, -1)", Run.INVALID).error("hold(2, 14)", Run.INVALID);
        run.due("send(0, -1, -1)", 1).error("hold(0, 14)", Run.NOT_POSSIBLE).error("hold(0, 60)", Run.INVALID);
        run.error("hold(0, -1)", Run.INVALID).error("hold(-1, 60)", Run.INVALID);
    }

    private static void requestFile() {
        Run run = new Run("promise 11: file: 0 to 59").range("request(#, 0)", 0, 59).range("request(#, 9)", 0, 59);
        run.due("request(0, 5)", 1).due("request(59, 5)", 2).due("request(1, 5)", 3).due("request(58, 5)", 4);
        run.due("requestOf(0, 0)", 0).due("requestOf(1, 0)", 59).range("request(#, 3)", 0, 59);
    }

    private static void requestRank() {
        Run run = new Run("promise 11: rank: 0 to 9").range("request(0, #)", 0, 9).range("request(59, #)", 0, 9);
        for (int rank = 0; rank <= 9; rank++) {
            run.due("request(7, " + rank + ")", rank + 1).due("requestOf(" + rank + ", 1)", rank);
        }
        run.range("request(7, #)", 0, 9);
    }

    private static void requestTwelve() {
        Run run = new Run("promise 11: LIMIT_REACHED if 12 wait").due("bring(3, 2, 0)", 0).due("hold(0, 5)", -1);
        for (int waiting = 1; waiting <= 11; waiting++) {
            run.due("request(6, 1)", waiting);
        }
        run.due("request(5, 1)", 12).error("request(5, 1)", Run.LIMIT).error("request(30, 9)", Run.LIMIT);
        run.due("undo()", 3).due("request(5, 2)", 12).due("serve(0)", 1).due("request(7, 3)", 12);
        run.error("request(5, 1)", Run.LIMIT).due("requestOf(11, 0)", 7);
    }

    private static void requestNothingElseHappens() {
        Run run = new Run("promise 11: nothing else happens, also if its cartridge is mounted");
        run.due("bring(3, 2, 0)", 0).due("hold(0, 5)", -1).due("weigh()", 0).due("turn(2)", 2).due("lift(0)", 0);
        run.due("mount(0)", 0).due("weigh()", 0).due("request(5, 9)", 1).due("count(8)", 1).due("count(9)", 0);
        run.due("cartridgeOf(0, 5)", 1).due("cartridgeOf(0, 6)", 0).due("count(0)", 8).due("count(4)", 1);
        run.due("count(11)", 0).due("count(1)", 2).due("nextBy(0)", Run.NOT_FOUND).due("request(5, 9)", 2);
    }

    private static void requestTheTick() {
        Run run = new Run("promise 11: in the order in which they came").due("request(5, 9)", 1).due("weigh()", 0);
        run.due("request(5, 9)", 2).due("request(4, 0)", 3).due("turn(4)", 4).due("request(3, 1)", 4);
        run.told("requestOf(0, ", 5, 9, 0).told("requestOf(1, ", 5, 9, 1).told("requestOf(2, ", 4, 0, 1);
        run.told("requestOf(3, ", 3, 1, 5);
    }

    private static void requestErrorsInOrder() {
        Run run = new Run("promise 11: INVALID_ARGUMENT rather than LIMIT_REACHED");
        for (int waiting = 1; waiting <= 12; waiting++) {
            run.due("request(6, 1)", waiting);
        }
        run.error("request(-1, 0)", Run.INVALID).error("request(60, 0)", Run.INVALID);
        run.error("request(0, -1)", Run.INVALID);
        run.error("request(0, 10)", Run.INVALID).error("request(0, 0)", Run.LIMIT);
    }

    /** Three cartridges at the walls 2, 6 and another one; the file of each has its number. */
    private static Run three(int wall, int shelf, int weight, String name) {
        Run run = new Run(name).due("bring(3, 2, 0)", 0).due("bring(3, 6, 0)", 1);
        run.due("bring(" + weight + ", " + wall + ", " + shelf + ")", 2);
        return run.due("hold(0, 0)", -1).due("hold(1, 1)", -1).due("hold(2, 2)", -1);
    }

    /** Those of the walls 2 and 6 are in the drives 0 and 1 then, drive 0 mounted first; 16 ticks; at the wall 6. */
    private static Run bothFull(int wall, int shelf, int weight, String name) {
        Run run = three(wall, shelf, weight, name).due("request(0, 0)", 1).due("serve(0)", 1);
        run.due("request(1, 0)", 1).due("serve(0)", 1).due("count(11)", 0).due("count(12)", 1).due("count(0)", 16);
        return run.due("count(1)", 6).due("request(2, 0)", 1);
    }

    private static void serveRule() {
        Run run = three(0, 0, 3, "promise 12: rule: 0 to 3").due("request(2, 0)", 1).range("serve(#)", 0, 3);
        for (int rule = 0; rule <= 3; rule++) {
            run.due("serve(" + rule + ")", 1).due("undo()", 3);
        }
    }

    private static void servePalletEmpty() {
        Run run = three(0, 0, 3, "promise 12: possible if the pallet is empty").due("bring(1, 0, 1)", 3);
        run.due("request(2, 0)", 1).due("lift(1)", 3);
        for (int rule = 0; rule <= 3; rule++) {
            run.error("serve(" + rule + ")", Run.NOT_POSSIBLE);
        }
        run.due("lay(3)", 3).due("serve(0)", 1);
    }

    private static void serveNoNextRequest() {
        Run run = three(0, 0, 3, "promise 12: there is a next request by the rule");
        for (int rule = 0; rule <= 3; rule++) {
            run.error("serve(" + rule + ")", Run.NOT_POSSIBLE);
        }
        run.due("request(3, 9)", 1);
        for (int rule = 0; rule <= 3; rule++) {
            run.error("serve(" + rule + ")", Run.NOT_POSSIBLE);
        }
        run.due("hold(2, 3)", -1).due("serve(0)", 1);
    }

    private static void serveCartridgeElsewhere() {
        Run run = three(2, 1, 3, "promise 12: of those whose file is held by a cartridge on a shelf");
        run.due("request(2, 0)", 1).due("send(2, -1, -1)", 1).error("serve(0)", Run.NOT_POSSIBLE);
        run.due("send(2, 2, 1)", 0);
        run.due("weigh()", 0).due("turn(2)", 2).due("lift(1)", 2).error("serve(1)", Run.NOT_POSSIBLE);
        run.due("mount(0)", 1);
        run.due("request(2, 0)", 1).error("serve(2)", Run.NOT_POSSIBLE).due("take(0)", 2);
        run.error("serve(3)", Run.NOT_POSSIBLE);
        run.due("lay(1)", 2).due("serve(3)", 1);
    }

    private static Run worn(int times, String name) {
        Run run = three(2, 1, 3, name).due("weigh()", 0).due("turn(2)", 2).due("lift(1)", 2);
        for (int wear = 1; wear <= times; wear++) {
            run.due("mount(0)", 0).due("take(0)", 2);
        }
        return run.due("lay(3)", 2).due("request(2, 0)", 1);
    }

    private static void serveWorn() {
        Run run = worn(6, "promise 12: on a shelf that is not worn");
        for (int rule = 0; rule <= 3; rule++) {
            run.error("serve(" + rule + ")", Run.NOT_POSSIBLE);
        }
        run.due("hold(0, 2)", 2).due("serve(0)", 1).due("count(11)", 0);
        worn(5, "promise 12: a wear of 5 is not worn").due("serve(0)", 1).due("cartridgeOf(2, 1)", 6).due("count(7)", 1);
    }

    private static void serveNearerDriveOfBoth() {
        // Walls 0 and 4 are as near to both drives.
        int[] drives = {0, 0, 0, 0, 0, 1, 1, 1};
        for (int wall = 0; wall < 8; wall++) {
            Run run = new Run("promise 12: of both the one whose wall is nearer, of both as near drive 0: wall " + wall);
            run.due("bring(3, " + wall + ", 3)", 0).due("hold(0, 9)", -1).due("request(9, 9)", 1);
            run.due("would(0, 3)", drives[wall]).due("serve(0)", 1);
            run.told("cartridgeOf(0, ", 3, 1, 2, drives[wall], 1, 0, 1);
        }
    }

    private static void serveNearerToTheCartridgeNotToTheMast() {
        Run run = three(1, 0, 3, "promise 12: nearer to the wall of the cartridge (of the next request)");
        run.due("weigh()", 0).due("turn(-2)", 6).due("request(2, 0)", 1).due("serve(0)", 1).due("count(11)", 2);
        Run first = three(7, 0, 3, "promise 12: the cartridge of the next request, not of the first one");
        first.due("request(0, 0)", 1).due("request(2, 9)", 2).due("serve(1)", 1).due("count(12)", 2);
    }

    private static void serveTheOneThatIsEmpty() {
        Run run = three(2, 1, 3, "promise 12: an empty one, drive 1 alone is").due("request(0, 0)", 1);
        run.due("serve(0)", 1);
        run.due("request(2, 0)", 1).due("would(0, 3)", 1).due("serve(0)", 1).due("count(12)", 2).due("count(11)", 0);
        Run other = three(6, 1, 3, "promise 12: an empty one, drive 0 alone is").due("request(1, 0)", 1);
        other.due("serve(0)", 1).due("count(12)", 1).due("request(2, 0)", 1).due("would(0, 3)", 0).due("serve(0)", 1);
        other.due("count(11)", 2).due("count(12)", 1);
        // Drive 0 was mounted last, but is empty again.
        Run last = three(6, 1, 3, "promise 12: an empty one, though it was mounted last").due("request(1, 0)", 1);
        last.due("serve(0)", 1).due("request(0, 0)", 1).due("serve(0)", 1).due("take(0)", 0).due("lay(0)", 0);
        last.due("request(2, 0)", 1).due("would(0, 3)", 0).due("serve(0)", 1).due("count(11)", 2).due("count(12)", 1);
    }

    private static void serveMountedLongestAgo() {
        Run run = bothFull(6, 1, 3, "promise 12: if none is empty, the one that was mounted longest ago");
        run.due("would(0, 3)", 0).due("serve(0)", 1).due("count(11)", 2).due("count(12)", 1);
        run.due("request(0, 0)", 1).due("would(0, 3)", 1).due("serve(0)", 1).due("count(12)", 0);
        run.due("request(1, 0)", 1).due("would(0, 3)", 0).due("serve(0)", 1).due("count(11)", 1);
        Run again = bothFull(6, 1, 3, "promise 12: mounted again by mount").due("weigh()", 0).due("turn(4)", 2);
        again.due("would(0, 3)", 0).due("take(0)", 0).due("mount(0)", 0).due("would(0, 3)", 1);
        again.due("weigh()", 0).due("turn(4)", 6).due("take(1)", 1).due("mount(1)", 0).due("would(0, 3)", 0);
        Run first = three(2, 1, 3, "promise 12: drive 1 mounted ahead of drive 0").due("request(1, 0)", 1);
        first.due("serve(0)", 1).due("request(0, 0)", 1).due("serve(0)", 1).due("request(2, 0)", 1);
        first.due("would(0, 3)", 1);
        first.due("serve(0)", 1).due("count(12)", 2).due("count(11)", 0);
    }

    private static void serveMountedLongestAgoAfterUndo() {
        Run run = bothFull(6, 1, 3, "promise 12: mounted longest ago, after undo").due("weigh()", 0).due("turn(4)", 2);
        run.due("take(0)", 0).due("mount(0)", 0).due("would(0, 3)", 1).due("undo()", 3).due("undo()", 2);
        run.due("would(0, 3)", 0).due("serve(0)", 1).due("count(11)", 2);
    }

    private static void serveLowestEmptyShelf() {
        for (int empty = 0; empty <= 3; empty++) {
            Run run = bothFull(5, 1, 3, "promise 12: lays it down on the lowest empty shelf, " + empty);
            for (int shelf = 0; shelf < empty; shelf++) {
                run.due("bring(1, 2, " + shelf + ")", 3 + shelf);
            }
            run.due("serve(0)", 1).told("cartridgeOf(0, ", 3, 1, 0, 20 + empty, 1, 0, 1);
        }
    }

    /** The walls around drive 0 as many as told are full; then the nearest one that is not is the next of AROUND. */
    private static void serveNearestWallWithAnEmptyShelf() {
        for (int full = 0; full < AROUND.length; full++) {
            Run run = new Run("promise 12: of the nearest wall that has one, to the right ahead of to the left, " + full);
            run.due("bring(3, 2, 0)", 0).due("bring(3, 6, 0)", 1).due("hold(0, 0)", -1).due("hold(1, 1)", -1);
            run.due("request(0, 0)", 1).due("serve(0)", 1).due("request(1, 0)", 1).due("serve(0)", 1);
            int cartridge = 2;
            for (int i = 0; i < full; i++) {
                for (int shelf = 0; shelf < 4; shelf++) {
                    run.due("bring(1, " + (2 + AROUND[i] + 8) % 8 + ", " + shelf + ")", cartridge++);
                }
            }
            if (full == 0) {
                run.due("bring(1, 6, 0)", cartridge);
            }
            run.due("hold(2, 2)", -1).due("request(2, 0)", 1).due("serve(0)", 1);
            run.due("cartridgeOf(0, 2)", 0).due("cartridgeOf(0, 3)", (2 + AROUND[full] + 8) % 8 * 10);
            run.due("count(11)", 2);
        }
    }

    private static void serveShelfOfItsOwnWallStaysFull() {
        Run run = bothFull(2, 1, 3, "promise 12: the shelf of the cartridge that is served is not empty yet");
        run.due("bring(1, 2, 0)", 3).due("bring(1, 2, 2)", 4).due("bring(1, 2, 3)", 5);
        run.due("serve(0)", 1).due("cartridgeOf(0, 3)", 30).due("shelfOf(2, 1)", Run.NOT_FOUND).due("count(11)", 2);
    }

    private static void serveNearestFromTheWallOfTheDrive() {
        Run run = three(6, 1, 3, "promise 12: from the wall of the drive").due("request(1, 0)", 1).due("serve(0)", 1);
        run.due("request(0, 0)", 1).due("serve(0)", 1).due("count(12)", 1).due("count(11)", 0).due("count(1)", 2);
        // The mast looks at the wall 2, the drive is that of the wall 6; its wall is full, the next to the right is 7.
        run.due("bring(1, 6, 0)", 3).due("bring(1, 6, 2)", 4).due("bring(1, 6, 3)", 5).due("request(2, 0)", 1);
        run.due("serve(0)", 1).due("cartridgeOf(1, 3)", 70).due("count(12)", 2);
        Run around = run.again("promise 12: 0 is behind 7").due("bring(1, 7, 1)", 6).due("bring(1, 7, 2)", 7);
        around.due("bring(1, 7, 3)", 8).due("bring(1, 6, 1)", 9).due("bring(1, 5, 0)", 10).due("bring(1, 5, 1)", 11);
        around.due("bring(1, 5, 2)", 12).due("bring(1, 5, 3)", 13).due("hold(3, 3)", -1).due("request(3, 0)", 1);
        around.due("serve(0)", 1).due("cartridgeOf(0, 3)", 20).due("hold(4, 4)", -1).due("request(4, 0)", 1);
        around.due("bring(1, 6, 0)", 14).due("serve(0)", 1).due("cartridgeOf(2, 3)", 0);
    }

    private static void serveWornOneTakenOut() {
        Run run = worn(5, "promise 12: a worn cartridge is taken out of its drive").due("serve(0)", 1);
        run.due("count(11)", 2);
        run.due("count(7)", 1).due("request(1, 0)", 1).due("serve(0)", 1).due("request(0, 0)", 1);
        run.due("request(2, 0)", 2);
        run.due("serve(0)", 1).due("count(11)", 0).told("cartridgeOf(2, ", 3, 6, 0, 21, 1, 1, 1).due("count(8)", 1);
        run.error("serve(0)", Run.NOT_POSSIBLE);
    }

    private static void serveWeighsAlsoIfWeighed() {
        Run run = three(0, 0, 3, "promise 12: it weighs (also if the pallet is weighed)").due("request(2, 0)", 1);
        // lift 1, weigh 1, 2 walls 2, mount 3
        run.due("would(0, 0)", 7).due("weigh()", 0).due("would(0, 0)", 7).due("undo()", 3);
        Run away = three(1, 0, 3, "promise 12: it weighs ahead of each turn").due("request(2, 0)", 1);
        // weigh 1, 1 wall 1, lift 1, weigh 1, 1 wall 1, mount 3
        away.due("would(0, 0)", 8).due("weigh()", 0).due("would(0, 0)", 8).due("serve(0)", 1).due("count(0)", 9);
        away.due("count(4)", 0).due("count(10)", 2);
    }

    private static void serveAtTheWallAlready() {
        Run run = three(2, 1, 3, "promise 12: as long as the mast does not look at it").due("request(2, 0)", 1);
        // weigh 1, 2 walls 2, lift 1, mount 3; at the wall already: lift 1, mount 3
        run.due("would(0, 0)", 7).due("weigh()", 0).due("turn(2)", 2).due("would(0, 0)", 4).due("would(0, 1)", 0);
        run.due("serve(0)", 1).due("count(0)", 7).due("count(10)", 1);
    }

    private static void serveWeightOfTheCartridgeTakenOut() {
        Run run = new Run("promise 12: takes its cartridge out, and lays it down, going there");
        run.due("bring(20, 2, 0)", 0).due("bring(3, 6, 0)", 1).due("bring(10, 6, 1)", 2).due("hold(0, 0)", -1);
        run.due("hold(1, 1)", -1).due("hold(2, 2)", -1).due("request(0, 0)", 1).due("serve(0)", 1);
        run.due("request(1, 0)", 1).due("serve(0)", 1).due("request(2, 0)", 1).due("count(0)", 16);
        for (int i = 0; i < 16; i++) {
            run.due("bring(1, " + new int[] {2, 3, 1, 4}[i / 4] + ", " + i % 4 + ")", 3 + i);
        }
        // weigh 1, 4 walls 4, take 2; weigh 1, 2 walls 6, lay 1 at the wall 0;
        // weigh 1, 2 walls 2, lift 1; weigh 1, 4 walls 8, mount 3
        run.due("would(0, 0)", 31).due("would(0, 1)", 4).due("serve(0)", 1).due("cartridgeOf(0, 3)", 0);
        run.due("count(0)", 47);
    }

    private static void serveByWeight() {
        // From the wall 6 to the drive 0 by weight: 10 at once, 11 and 20 by two turns, all by full tens.
        int[][] cases = {{9, 1, 4}, {10, 1, 8}, {11, 2, 8}, {19, 2, 8}, {20, 2, 12}};
        for (int[] each : cases) {
            Run run = three(6, 1, each[0], "promise 12: by as many walls as are left, but not more than it can");
            run.due("request(1, 0)", 1).due("serve(0)", 1).due("request(2, 0)", 1).due("count(1)", 6);
            // At the wall 6 already: lift 1, then a weighing ahead of each turn, mount 3.
            run.due("would(0, 3)", 0).due("would(0, 1)", each[1]).due("would(0, 0)", 1 + each[1] + each[2] + 3);
            run.due("serve(0)", 1).due("count(0)", 7 + 4 + each[1] + each[2]).due("count(10)", 1 + each[1]);
            run.due("count(1)", 2);
        }
    }

    private static void serveHowMany() {
        Run run = three(2, 1, 3, "promise 12: returns how many requests are served by it").due("hold(2, 3)", -1);
        run.due("request(0, 9)", 1);
        for (int waiting = 2; waiting <= 11; waiting++) {
            run.due("request(" + (waiting % 2 + 2) + ", 0)", waiting);
        }
        run.due("request(1, 0)", 12).due("serve(3)", 10).due("count(8)", 2).due("count(9)", 10);
        run.due("cartridgeOf(2, 6)", 10);
        run.due("requestOf(0, 0)", 0).due("requestOf(1, 0)", 1).due("serve(0)", 1).due("serve(0)", 1);
        run.due("count(9)", 12);
        run.error("serve(0)", Run.NOT_POSSIBLE);
    }

    private static void serveIsOneChange() {
        Run run = bothFull(5, 1, 20, "promise 12: serving is one change").due("serve(0)", 1).due("count(14)", 4);
        run.due("undo()", 3).due("count(0)", 16).due("count(11)", 0).due("count(12)", 1).due("count(8)", 1);
        run.due("undo()", 2);
        run.due("count(8)", 0).due("undo()", 1).due("count(12)", Run.NOT_FOUND);
    }

    private static void serveErrorsInOrder() {
        Run run = new Run("promise 12: INVALID_ARGUMENT rather than NOT_POSSIBLE");
        run.error("serve(-1)", Run.INVALID).error("serve(4)", Run.INVALID).due("bring(3, 0, 0)", 0).due("lift(0)", 0);
        run.error("serve(-1)", Run.INVALID).error("serve(4)", Run.INVALID);
    }
}
