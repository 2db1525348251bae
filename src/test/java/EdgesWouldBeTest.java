/** The edges of the promises 17 to 20: a test for each sentence that names one. */
public final class EdgesWouldBeTest {
    public static void main(String[] args) {
        nextRule();
        nextNone();
        nextHeldByNoCartridge();
        nextOnAShelf();
        nextNotWorn();
        nextPalletNotEmpty();
        nextCameFirst();
        nextGreatestRank();
        nextNearestWall();
        nextNearestAround();
        nextMostRequests();
        nextOfSeveralTheFirst();
        nextErrorsInOrder();
        wouldRule();
        wouldWhat();
        wouldTicksAndTurns();
        wouldNoTurns();
        wouldServed();
        wouldDrive();
        wouldCartridge();
        wouldNotPossible();
        wouldChangesNothing();
        wouldErrorsInOrder();
        wayToWall();
        wayToHere();
        wayToAround();
        wayToWithThePile();
        wayToWeighedOrNot();
        batchRule();
        batchWhat();
        batchNoRequest();
        batchNotPossible();
        batchPalletNotEmpty();
        batchUntilNoneWaits();
        batchWaitBehindIt();
        batchTwelve();
        batchTakesOutOfDrives();
        batchBecomesWorn();
        batchChangesNothing();
        Run.end();
    }

    /** A cartridge on the lowest shelf of each wall; the file of each has the number of its wall. */
    private static Run walls(String name) {
        Run run = new Run(name);
        for (int wall = 0; wall < 8; wall++) {
            run.due("bring(3, " + wall + ", 0)", wall).due("hold(" + wall + ", " + wall + ")", -1);
        }
        return run;
    }

    private static Run requests(Run run, int... files) {
        for (int i = 0; i < files.length; i++) {
            run.due("request(" + files[i] + ", 0)", i + 1);
        }
        return run;
    }

    private static void nextRule() {
        Run run = requests(walls("promise 17: rule: 0 to 3"), 5).range("nextBy(#)", 0, 3).each("nextBy(#)", 0, 3, 0);
        run.error("nextBy(0)", 0).error("nextBy(3)", 0);
    }

    private static void nextNone() {
        Run run = walls("promise 17: NOT_FOUND if there is none");
        for (int rule = 0; rule <= 3; rule++) {
            run.error("nextBy(" + rule + ")", Run.NOT_FOUND);
        }
    }

    private static void nextHeldByNoCartridge() {
        Run run = requests(walls("promise 17: whose file is held by a cartridge"), 8, 59);
        run.each("nextBy(#)", 0, 3, Run.NOT_FOUND).due("request(5, 0)", 3).each("nextBy(#)", 0, 3, 2);
        run.due("hold(5, 59)", -1).each("nextBy(#)", 0, 3, 1).due("hold(2, 8)", -1).each("nextBy(#)", 0, 1, 0);
    }

    private static void nextOnAShelf() {
        Run run = requests(walls("promise 17: a cartridge on a shelf"), 2, 2).each("nextBy(#)", 0, 3, 0);
        run.due("send(2, -1, -1)", 1).each("nextBy(#)", 0, 3, Run.NOT_FOUND).due("send(2, 2, 3)", 0);
        run.each("nextBy(#)", 0, 3, 0).due("weigh()", 0).due("turn(2)", 2).due("lift(3)", 2);
        run.each("nextBy(#)", 0, 3, Run.NOT_FOUND).due("mount(0)", 2).due("request(2, 9)", 1);
        run.each("nextBy(#)", 0, 3, Run.NOT_FOUND).due("take(0)", 2).each("nextBy(#)", 0, 3, Run.NOT_FOUND);
        run.due("lay(1)", 2).each("nextBy(#)", 0, 3, 0);
    }

    private static void nextNotWorn() {
        Run run = walls("promise 17: that is not worn").due("weigh()", 0).due("turn(2)", 2).due("lift(0)", 2);
        for (int wear = 1; wear <= 5; wear++) {
            run.due("mount(0)", 0).due("take(0)", 2);
        }
        run.due("lay(0)", 2).due("request(2, 9)", 1).due("request(2, 9)", 2).due("request(1, 0)", 3);
        run.each("nextBy(#)", 0, 3, 0).due("lift(0)", 2).due("undo()", 3).due("hold(2, 9)", -1);
        Run worn = run.again("promise 17: worn").due("lift(0)", 2).due("mount(0)", 2).due("take(0)", 2);
        worn.due("lay(0)", 2);
        worn.due("request(2, 9)", 2).due("request(2, 9)", 3).each("nextBy(#)", 0, 3, 0).due("requestOf(0, 0)", 1);
        worn.due("send(1, -1, -1)", 1).each("nextBy(#)", 0, 3, Run.NOT_FOUND);
    }

    private static void nextPalletNotEmpty() {
        Run run = requests(walls("promise 17: there is a next request, also if the pallet is not empty"), 5);
        run.due("lift(0)", 0).each("nextBy(#)", 0, 3, 0).due("would(0, 0)", Run.NOT_POSSIBLE);
    }

    private static void nextCameFirst() {
        Run run = walls("promise 17: rule 0: the one that came first").due("request(50, 9)", 1).due("request(4, 0)", 2);
        run.due("request(1, 9)", 3).due("request(0, 5)", 4).due("nextBy(0)", 1).due("nextBy(1)", 2).due("nextBy(2)", 3);
    }

    private static void nextGreatestRank() {
        Run run = walls("promise 17: rule 1: the one with the greatest rank").due("request(1, 0)", 1);
        run.due("nextBy(1)", 0);
        for (int rank = 1; rank <= 9; rank++) {
            run.due("request(" + rank % 8 + ", " + rank + ")", rank + 1).due("nextBy(1)", rank).due("nextBy(0)", 0);
        }
        run.due("request(50, 9)", 11).due("nextBy(1)", 9).due("request(0, 9)", 12).due("nextBy(1)", 9);
    }

    private static void nextNearestWall() {
        Run run = requests(walls("promise 17: rule 2: the wall nearest to that at which the mast looks"), 4, 3, 2, 1, 0);
        run.due("nextBy(2)", 4).due("weigh()", 0).due("turn(1)", 1).due("nextBy(2)", 3).due("weigh()", 0);
        run.due("turn(1)", 2);
        run.due("nextBy(2)", 2).due("weigh()", 0).due("turn(1)", 3).due("nextBy(2)", 1).due("weigh()", 0);
        run.due("turn(1)", 4);
        run.due("nextBy(2)", 0).due("weigh()", 0).due("turn(2)", 6).due("nextBy(2)", 0).due("weigh()", 0);
        run.due("turn(1)", 7);
        run.due("nextBy(2)", 4);
    }

    private static void nextNearestAround() {
        for (int mast = 0; mast < 8; mast++) {
            for (int one = 0; one < 8; one++) {
                for (int other = 0; other < 8; other++) {
                    Run run = new Run("promise 17: by the fewest walls, to the right or to the left: " + mast + one + other);
                    run.due("bring(3, " + one + ", 0)", 0).due("bring(3, " + other + ", 1)", 1).due("hold(0, 0)", -1);
                    run.due("hold(1, 1)", -1).due("request(0, 0)", 1).due("request(1, 9)", 2);
                    if (mast != 0) {
                        run.due("weigh()", 0).due("turn(" + (mast > 4 ? mast - 8 : mast) + ")", mast);
                    }
                    run.due("nextBy(2)", apart(mast, other) < apart(mast, one) ? 1 : 0);
                }
            }
        }
    }

    private static int apart(int one, int other) {
        return new int[] {0, 1, 2, 3, 4, 3, 2, 1}[Math.abs(one - other)];
    }

    private static void nextMostRequests() {
        Run run = walls("promise 17: rule 3: whose cartridge holds files of most requests that wait");
        run.due("hold(5, 50)", -1).due("hold(5, 51)", -1).due("request(1, 9)", 1).due("request(5, 0)", 2);
        run.due("nextBy(3)", 0);
        run.due("request(50, 0)", 3).due("nextBy(3)", 1).due("request(1, 0)", 4).due("nextBy(3)", 0);
        run.due("request(51, 0)", 5);
        run.due("nextBy(3)", 1).due("request(1, 0)", 6).due("nextBy(3)", 0).due("request(52, 0)", 7);
        run.due("nextBy(3)", 0);
        run.due("hold(5, 52)", -1).due("nextBy(3)", 1);
    }

    private static void nextOfSeveralTheFirst() {
        Run run = requests(walls("promise 17: of several the one that came first"), 7, 1, 1, 7, 1, 7);
        run.each("nextBy(#)", 0, 3, 0).due("weigh()", 0).due("turn(4)", 4).each("nextBy(#)", 0, 3, 0);
        Run other = requests(walls("promise 17: of several the one that came first, the other way"), 50, 1, 7, 7, 1);
        other.each("nextBy(#)", 0, 3, 1).due("weigh()", 0).due("turn(-4)", 4).each("nextBy(#)", 0, 3, 1);
    }

    private static void nextErrorsInOrder() {
        Run run = new Run("promise 17: INVALID_ARGUMENT rather than NOT_FOUND");
        run.error("nextBy(-1)", Run.INVALID).error("nextBy(4)", Run.INVALID);
    }

    private static void wouldRule() {
        Run run = requests(walls("promise 18: rule: 0 to 3"), 5);
        for (int what = 0; what <= 4; what++) {
            run.range("would(#, " + what + ")", 0, 3);
        }
        run.each("would(#, 4)", 0, 3, 5);
    }

    private static void wouldWhat() {
        Run run = requests(walls("promise 18: what: 0 to 4"), 5).range("would(0, #)", 0, 4).range("would(3, #)", 0, 4);
        // weigh 1, 3 walls 3, lift 1, weigh 1, 1 wall 1, mount 3
        for (int rule = 0; rule <= 3; rule++) {
            run.told("would(" + rule + ", ", 10, 2, 1, 1, 5, Run.INVALID);
        }
    }

    private static void wouldTicksAndTurns() {
        Run run = new Run("promise 18: 0: the ticks that it takes; 1: how many times the mast turns");
        run.due("bring(3, 2, 0)", 0).due("bring(3, 6, 0)", 1).due("bring(20, 7, 0)", 2).due("hold(0, 0)", -1);
        run.due("hold(1, 1)", -1).due("hold(2, 2)", -1).due("request(0, 0)", 1).due("serve(0)", 1);
        run.due("request(1, 0)", 1);
        run.due("serve(0)", 1).due("request(2, 0)", 1).due("count(0)", 16).due("count(10)", 2);
        // weigh 1, 4 walls 4, take 2, lay 1; weigh 1, 3 walls 3, lift 1; weigh 1, 2 walls 6, weigh 1, 1 wall 3, mount 3
        run.told("would(0, ", 27, 4, 1, 0, 2).due("serve(0)", 1).due("count(0)", 16 + 27).due("count(10)", 2 + 4);
        // From the wall 2: weigh 1, 4 walls 4, take 2, lay 1; weigh 1, 4 walls 4, lift 1, weigh 1, 4 walls 4, mount 3
        run.due("request(0, 0)", 1).told("would(0, ", 22, 3, 1, 1, 0);
    }

    private static void wouldNoTurns() {
        Run run = requests(walls("promise 18: it does not turn if the mast looks at the wall"), 2).due("weigh()", 0);
        run.due("turn(2)", 2).told("would(0, ", 4, 0, 1, 0, 2);
    }

    private static void wouldServed() {
        Run run = walls("promise 18: 2: how many requests are served").due("hold(5, 50)", -1);
        for (int waiting = 1; waiting <= 12; waiting++) {
            run.due("request(" + (waiting % 2 == 0 ? 5 : 50) + ", 0)", waiting).due("would(0, 2)", waiting);
        }
        run.due("count(8)", 12).due("count(9)", 0).due("hold(4, 50)", 5).due("would(0, 2)", 6).due("would(0, 4)", 4);
    }

    private static void wouldDrive() {
        Run run = requests(walls("promise 18: 3: the drive"), 4, 7).due("would(0, 3)", 0).due("weigh()", 0);
        run.due("turn(-1)", 7);
        run.due("would(2, 3)", 1).due("serve(2)", 1).due("count(12)", 7).due("would(2, 3)", 0).due("serve(2)", 1);
        run.due("request(1, 0)", 1).due("would(0, 3)", 1);
    }

    private static void wouldCartridge() {
        Run run = walls("promise 18: 4: the cartridge that is mounted").due("request(4, 0)", 1).due("request(3, 9)", 2);
        // weigh 1, 4 walls 4, lift 1, weigh 1, 2 walls 2, mount 3
        run.due("request(1, 0)", 3).due("request(4, 0)", 4).told("would(0, ", 12, 2, 2, 0, 4);
        // weigh 1, 3 walls 3, lift 1, weigh 1, 1 wall 1, mount 3; weigh 1, 1 wall 1, lift 1, weigh 1, 1 wall 1, mount 3
        run.told("would(1, ", 10, 2, 1, 0, 3).told("would(2, ", 8, 2, 1, 0, 1).due("would(3, 4)", 4);
        run.due("would(3, 3)", 0);
        Run zero = requests(walls("promise 18: 4: the cartridge 0"), 0).told("would(0, ", 7, 1, 1, 0, 0);
        zero.due("serve(0)", 1).due("count(11)", 0);
    }

    private static void wouldNotPossible() {
        Run run = walls("promise 18: NOT_POSSIBLE if it is not possible");
        for (int what = 0; what <= 4; what++) {
            run.error("would(0, " + what + ")", Run.NOT_POSSIBLE);
        }
        run.due("request(0, 0)", 1).due("lift(0)", 0).due("request(1, 0)", 2);
        for (int what = 0; what <= 4; what++) {
            run.error("would(1, " + what + ")", Run.NOT_POSSIBLE);
        }
        run.due("lay(0)", 0).due("would(0, 4)", 0).due("send(0, -1, -1)", 1).due("would(0, 4)", 1);
    }

    private static void wouldChangesNothing() {
        Run run = requests(walls("promise 18: it changes nothing"), 5, 4, 3).due("weigh()", 0);
        for (int rule = 0; rule <= 3; rule++) {
            run.error("would(" + rule + ", 2)", 1);
        }
        run.due("count(4)", 1).due("count(0)", 1).due("count(14)", 4);
    }

    private static void wouldErrorsInOrder() {
        Run run = new Run("promise 18: INVALID_ARGUMENT rather than NOT_POSSIBLE");
        run.error("would(-1, 0)", Run.INVALID).error("would(4, 0)", Run.INVALID).error("would(0, -1)", Run.INVALID);
        run.error("would(0, 5)", Run.INVALID).error("would(4, 5)", Run.INVALID).error("would(0, 0)", Run.NOT_POSSIBLE);
    }

    private static void wayToWall() {
        Run run = new Run("promise 19: wall: 0 to 7").range("wayTo(#)", 0, 7).error("wayTo(0)", 0).error("wayTo(7)", 2);
        run.due("weigh()", 0).due("turn(-1)", 7).range("wayTo(#)", 0, 7).error("wayTo(7)", 0).error("wayTo(0)", 2);
    }

    private static void wayToHere() {
        Run run = new Run("promise 19: as long as the mast does not look at it").due("bring(20, 0, 0)", 0);
        run.due("lift(0)", 0);
        run.error("wayTo(0)", 0).due("weigh()", 20).error("wayTo(0)", 0).due("turn(2)", 2).error("wayTo(2)", 0);
    }

    private static void wayToAround() {
        for (int mast = 0; mast < 8; mast++) {
            Run run = new Run("promise 19: the shorter way, from the wall " + mast);
            if (mast != 0) {
                run.due("weigh()", 0).due("turn(" + (mast > 4 ? mast - 8 : mast) + ")", mast);
            }
            for (int wall = 0; wall < 8; wall++) {
                run.due("wayTo(" + wall + ")", wall == mast ? 0 : 1 + apart(mast, wall));
            }
        }
    }

    private static void wayToWithThePile() {
        // Weights, and the ticks for 1, 2, 3 and 4 walls: weighing ahead of each turn, and full tens for each wall.
        int[][] cases = {{1, 2, 3, 4, 5}, {9, 2, 3, 4, 5}, {10, 3, 5, 7, 9}, {11, 3, 5, 8, 10}, {19, 3, 5, 8, 10},
            {20, 4, 7, 11, 14}, {21, 4, 8, 12, 16}, {29, 4, 8, 12, 16}, {30, 5, 10, 15, 20}, {39, 5, 10, 15, 20},
            {40, 6, 12, 18, 24}, {50, 7, 14, 21, 28}, {59, 7, 14, 21, 28}, {60, 8, 16, 24, 32}};
        for (int[] each : cases) {
            Run run = new Run("promise 19: with the pile as it is, weight " + each[0]);
            int left = each[0];
            for (int cartridge = 0; left > 0; cartridge++) {
                run.due("bring(" + Math.min(left, 20) + ", 0, " + cartridge + ")", cartridge);
                run.due("lift(" + cartridge + ")", cartridge);
                left -= Math.min(left, 20);
            }
            run.told("wayTo(", 0, each[1], each[2], each[3], each[4], each[3], each[2], each[1]);
            run.error("wayTo(4)", each[4]);
        }
    }

    private static void wayToWeighedOrNot() {
        Run run = new Run("promise 19: it weighs (also if the pallet is weighed)").error("wayTo(3)", 4);
        run.due("weigh()", 0);
        run.error("wayTo(3)", 4).due("count(4)", 1).due("count(0)", 1).due("count(1)", 0).due("count(10)", 0);
    }

    private static void batchRule() {
        Run run = requests(walls("promise 20: rule: 0 to 3"), 5);
        for (int what = 0; what <= 2; what++) {
            run.range("wholeBatch(#, " + what + ")", 0, 3);
        }
        run.each("wholeBatch(#, 1)", 0, 3, 1).each("wholeBatch(#, 0)", 0, 3, 10);
    }

    private static void batchWhat() {
        Run run = requests(walls("promise 20: what: 0 to 2"), 5).range("wholeBatch(0, #)", 0, 2);
        run.range("wholeBatch(3, #)", 0, 2);
        run.told("wholeBatch(0, ", 10, 1, 0, Run.INVALID).told("wholeBatch(3, ", 10, 1, 0, Run.INVALID);
        Run empty = new Run("promise 20: an argument out of range, nothing to serve").range("wholeBatch(#, 0)", 0, 3);
        empty.range("wholeBatch(0, #)", 0, 2).error("wholeBatch(4, 3)", Run.INVALID);
    }

    private static void batchNoRequest() {
        Run run = walls("promise 20: until no request waits, none does");
        for (int rule = 0; rule <= 3; rule++) {
            run.told("wholeBatch(" + rule + ", ", 0, 0, 0);
        }
        new Run("promise 20: on a new object").told("wholeBatch(0, ", 0, 0, 0).told("wholeBatch(3, ", 0, 0, 0);
    }

    private static void batchNotPossible() {
        Run run = requests(walls("promise 20: as long as it is possible, it is not"), 50, 51);
        for (int rule = 0; rule <= 3; rule++) {
            run.told("wholeBatch(" + rule + ", ", 0, 0, 2);
        }
    }

    private static void batchPalletNotEmpty() {
        Run run = requests(walls("promise 20: possible if the pallet is empty"), 5, 6).due("lift(0)", 0);
        for (int rule = 0; rule <= 3; rule++) {
            run.told("wholeBatch(" + rule + ", ", 0, 0, 2);
        }
        run.due("lay(0)", 0).due("wholeBatch(0, 1)", 2);
    }

    private static void batchUntilNoneWaits() {
        // weigh 1, 1 wall 1, lift 1, weigh 1, 1 wall 1, mount 3; from the wall 2: weigh 1, 3 walls 3, lift 1, weigh 1,
        // 1 wall 1, mount 3
        Run run = requests(walls("promise 20: serves again and again"), 1, 5).told("wholeBatch(0, ", 8 + 10, 2, 0);
        run.due("serve(0)", 1).told("wholeBatch(0, ", 10, 1, 0).due("serve(0)", 1).told("wholeBatch(0, ", 0, 0, 0);
        run.due("count(0)", 18);
        Run many = requests(walls("promise 20: one serving for several requests"), 1, 1, 1, 1).told("wholeBatch(0, ", 8, 1, 0);
        many.due("serve(0)", 4);
    }

    private static void batchWaitBehindIt() {
        Run run = requests(walls("promise 20: 2: how many requests wait behind it"), 50, 1, 51, 5, 52);
        run.told("wholeBatch(0, ", 18, 2, 3).due("serve(0)", 1).told("wholeBatch(0, ", 10, 1, 3).due("serve(0)", 1);
        run.told("wholeBatch(0, ", 0, 0, 3).due("count(8)", 3);
    }

    private static void batchTwelve() {
        Run run = new Run("promise 20: twelve requests for files of twelve cartridges");
        for (int each = 0; each < 12; each++) {
            run.due("bring(1, " + each % 6 + ", " + each / 6 + ")", each).due("hold(" + each + ", " + each + ")", -1);
            run.due("request(" + each + ", " + each % 10 + ")", each + 1);
        }
        for (int rule = 0; rule <= 3; rule++) {
            run.due("wholeBatch(" + rule + ", 1)", 12).due("wholeBatch(" + rule + ", 2)", 0);
            Run really = run.again("promise 20: as serving does it, rule " + rule);
            for (int times = 1; times <= 12; times++) {
                really.due("serve(" + rule + ")", 1).due("wholeBatch(" + rule + ", 1)", 12 - times);
            }
            run.due("wholeBatch(" + rule + ", 0)", ticksOf(rule));
        }
    }

    private static int ticksOf(int rule) {
        PlainLibrary plain = new PlainLibrary();
        for (int each = 0; each < 12; each++) {
            plain.bring(1, each % 6, each / 6);
            plain.hold(each, each);
            plain.request(each, each % 10);
        }
        for (int times = 0; times < 12; times++) {
            plain.serve(rule);
        }
        return plain.count(0);
    }

    private static void batchTakesOutOfDrives() {
        Run run = requests(walls("promise 20: what a serving takes out of a drive, a later one serves"), 2).due("serve(0)", 1);
        run.due("request(6, 0)", 1).due("serve(0)", 1).due("count(11)", 2).due("count(12)", 6);
        requests(run, 2, 6).each("wholeBatch(#, 1)", 0, 3, 0).each("wholeBatch(#, 2)", 0, 3, 2);
        run.due("request(1, 0)", 3).each("wholeBatch(#, 1)", 0, 3, 3).each("wholeBatch(#, 2)", 0, 3, 0);
    }

    private static void batchBecomesWorn() {
        Run run = walls("promise 20: a cartridge that becomes worn by it").due("weigh()", 0).due("turn(2)", 2);
        run.due("lift(0)", 2);
        for (int wear = 1; wear <= 5; wear++) {
            run.due("mount(0)", 0).due("take(0)", 2);
        }
        run.due("lay(0)", 2).due("hold(2, 50)", -1);
        // At the wall 2 already: lift 1, mount 3; weigh 1, 1 wall 1, lift 1, weigh 1, 3 walls 3, mount 3 in drive 1
        requests(run, 2, 50, 1).told("wholeBatch(0, ", 4 + 10, 2, 0).due("serve(0)", 2).due("count(7)", 1);
        run.due("request(2, 0)", 2).due("wholeBatch(0, 1)", 1).due("wholeBatch(0, 2)", 1);
    }

    private static void batchChangesNothing() {
        Run run = requests(walls("promise 20: it does not really do so"), 5, 6, 50).due("weigh()", 0);
        for (int rule = 0; rule <= 3; rule++) {
            run.error("wholeBatch(" + rule + ", 2)", 1);
        }
        run.due("count(4)", 1).due("count(0)", 1).due("count(14)", 4).due("count(8)", 3).due("count(9)", 0);
    }
}
