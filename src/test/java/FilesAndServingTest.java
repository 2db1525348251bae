/** Promises 10 to 12. */
public final class FilesAndServingTest {
    public static void main(String[] args) {
        promise10Hold();
        promise10HoldErrors();
        promise11Request();
        promise12Serve();
        promise12ServeErrors();
        promise12NearerDrive();
        promise12EmptyDrive();
        promise12LongestAgo();
        promise12NearestEmptyShelf();
        promise12OnlyTheWallBehind();
        promise12WayByWeight();
        promise12Worn();
        Run.end();
    }

    private static void promise10Hold() {
        Run run = new Run("promise 10: hold");
        run.due("bring(4, 0, 0)", 0).due("bring(5, 0, 1)", 1).due("weigh()", 0);
        run.due("hold(0, 0)", -1).due("hold(0, 59)", -1).due("hold(0, 59)", 0).due("hold(0, 30)", -1);
        run.due("count(14)", 4).due("count(13)", 3).due("cartridgeOf(0, 4)", 3).due("holder(59)", 0);
        run.due("count(0)", 1).due("count(4)", 1);
        run.due("hold(1, 59)", 0).due("holder(59)", 1).due("cartridgeOf(0, 4)", 2).due("cartridgeOf(1, 4)", 1);
        run.due("count(13)", 3).due("undo()", 3).due("holder(59)", 0).due("hold(1, 0)", 0).due("hold(0, 0)", 1);
        run.due("lift(0)", 0).due("hold(0, 12)", -1).due("weigh()", 4).due("turn(2)", 2).due("mount(0)", 0);
        run.due("hold(0, 13)", Run.LIMIT).due("hold(1, 12)", 0).due("hold(0, 13)", -1).due("hold(0, 12)", Run.LIMIT);
    }

    private static void promise10HoldErrors() {
        Run run = new Run("promise 10: hold, errors");
        run.error("hold(0, 0)", Run.INVALID);
        run.due("bring(4, 0, 0)", 0).due("bring(5, 0, 1)", 1);
        run.error("hold(-1, 0)", Run.INVALID).error("hold(2, 0)", Run.INVALID).error("hold(0, -1)", Run.INVALID);
        run.error("hold(0, 60)", Run.INVALID).error("hold(0, 2147483647)", Run.INVALID);
        run.error("hold(-2147483648, 0)", Run.INVALID).due("hold(1, 4)", -1);
        for (int file = 0; file < 4; file++) {
            run.due("hold(0, " + file + ")", -1);
        }
        run.error("hold(0, 4)", Run.LIMIT).error("hold(0, 5)", Run.LIMIT).error("hold(0, 60)", Run.INVALID);
        run.due("hold(0, 3)", 0).due("send(0, -1, -1)", 1);
        run.error("hold(0, 3)", Run.NOT_POSSIBLE).error("hold(0, 5)", Run.NOT_POSSIBLE);
        run.error("hold(0, 60)", Run.INVALID);
        run.due("hold(1, 3)", 0).due("cartridgeOf(0, 4)", 3);
        run.due("send(0, 0, 2)", 0).due("hold(0, 5)", -1).due("count(13)", 6);
    }

    private static void promise11Request() {
        Run run = new Run("promise 11: request");
        run.due("bring(4, 2, 0)", 0).due("hold(0, 7)", -1).due("weigh()", 0).due("turn(2)", 2);
        run.due("lift(0)", 0).due("mount(0)", 0).due("weigh()", 0).due("count(0)", 8);
        run.error("request(-1, 0)", Run.INVALID).error("request(60, 0)", Run.INVALID);
        run.error("request(0, -1)", Run.INVALID).error("request(0, 10)", Run.INVALID);
        run.error("request(-2147483648, 0)", Run.INVALID).error("request(0, 2147483647)", Run.INVALID);
        run.due("request(7, 0)", 1).due("count(9)", 0).due("count(0)", 8).due("count(4)", 1).due("count(8)", 1);
        run.due("cartridgeOf(0, 5)", 1).due("count(14)", 4).due("request(0, 9)", 2).due("request(59, 5)", 3);
        run.due("weigh()", 0);
        for (int waiting = 4; waiting <= 12; waiting++) {
            run.due("request(7, 3)", waiting);
        }
        run.error("request(7, 3)", Run.LIMIT).error("request(60, 3)", Run.INVALID).error("request(7, 10)", Run.INVALID);
        run.due("requestOf(0, 2)", 8).due("requestOf(3, 2)", 9).due("requestOf(11, 0)", 7).due("cartridgeOf(0, 5)", 10);
        run.due("take(0)", 0).due("mount(0)", 10).due("count(8)", 2).due("request(1, 1)", 3);
        run.due("requestOf(0, 0)", 0).due("requestOf(1, 0)", 59).due("requestOf(2, 2)", 14);
    }

    private static void promise12Serve() {
        Run run = new Run("promise 12: serve");
        run.due("bring(12, 4, 1)", 0).due("hold(0, 5)", -1).due("hold(0, 6)", -1);
        run.due("request(5, 2)", 1).due("request(6, 3)", 2).due("request(5, 4)", 3).due("request(50, 9)", 4);
        // weigh 1, four walls to the right 4, lift 1, weigh 1, two walls to the left 4, mount 3
        run.due("serve(0)", 3).due("count(0)", 14).due("count(1)", 2).due("count(10)", 2).due("count(4)", 0);
        run.due("count(8)", 1).due("count(9)", 3).due("count(11)", 0).due("count(2)", 0).due("count(3)", 0);
        run.due("cartridgeOf(0, 1)", 1).due("cartridgeOf(0, 6)", 3).due("requestOf(0, 0)", 50);
        run.due("shelfOf(4, 1)", Run.NOT_FOUND).due("count(14)", 4).due("undo()", 3);
        run.due("count(8)", 4).due("count(0)", 0).due("count(1)", 0).due("shelfOf(4, 1)", 0).due("count(9)", 0);
        Run weighed = new Run("promise 12: serve, at the wall already");
        weighed.due("bring(3, 2, 0)", 0).due("hold(0, 5)", -1).due("weigh()", 0).due("turn(2)", 2);
        weighed.due("request(5, 0)", 1).due("weigh()", 0);
        // lift 1, mount 3
        weighed.due("serve(0)", 1).due("count(0)", 8).due("count(10)", 1).due("count(4)", 0);
    }

    private static void promise12ServeErrors() {
        Run run = new Run("promise 12: serve, errors");
        run.error("serve(-1)", Run.INVALID).error("serve(4)", Run.INVALID).error("serve(-2147483648)", Run.INVALID);
        run.error("serve(0)", Run.NOT_POSSIBLE);
        run.due("bring(3, 0, 0)", 0).due("bring(4, 0, 1)", 1).due("hold(0, 5)", -1);
        run.error("serve(0)", Run.NOT_POSSIBLE).due("request(6, 0)", 1).error("serve(1)", Run.NOT_POSSIBLE);
        run.due("request(5, 0)", 2).due("lift(1)", 1).error("serve(2)", Run.NOT_POSSIBLE);
        run.error("serve(3)", Run.NOT_POSSIBLE).error("serve(4)", Run.INVALID);
        run.due("lay(1)", 1).due("lift(0)", 0).error("serve(0)", Run.NOT_POSSIBLE).due("lay(0)", 0);
        run.due("send(0, -1, -1)", 1).error("serve(0)", Run.NOT_POSSIBLE).due("send(0, 0, 0)", 0);
        run.due("serve(3)", 1).due("request(5, 0)", 2).error("serve(3)", Run.NOT_POSSIBLE);
    }

    private static void promise12NearerDrive() {
        // Drive 0 is at the wall 2, drive 1 at the wall 6; of both as near drive 0.
        int[] drives = {0, 0, 0, 0, 0, 1, 1, 1};
        for (int wall = 0; wall < 8; wall++) {
            Run run = new Run("promise 12: serve, nearer drive, wall " + wall);
            run.due("bring(3, " + wall + ", 0)", 0).due("hold(0, 5)", -1).due("request(5, 0)", 1).due("serve(0)", 1);
            run.due("cartridgeOf(0, 3)", drives[wall]).due("count(1)", drives[wall] == 0 ? 2 : 6);
        }
    }

    private static void promise12EmptyDrive() {
        Run run = new Run("promise 12: serve, the empty drive");
        run.due("bring(3, 2, 0)", 0).due("bring(3, 2, 1)", 1).due("bring(3, 2, 2)", 2);
        run.due("hold(0, 0)", -1).due("hold(1, 1)", -1).due("hold(2, 2)", -1);
        run.due("request(0, 0)", 1).due("serve(0)", 1).due("count(11)", 0);
        run.due("request(1, 0)", 1).due("serve(0)", 1).due("count(12)", 1).due("count(1)", 6);
        run.due("take(1)", 1).due("lay(0)", 1).due("request(2, 0)", 1).due("serve(0)", 1).due("count(12)", 2);
        run.due("weigh()", 0).due("turn(-4)", 2).due("take(0)", 0).due("lay(0)", 0);
        run.due("request(1, 0)", 1).due("serve(0)", 1).due("count(11)", 1).due("count(12)", 2);
    }

    private static void promise12LongestAgo() {
        Run run = new Run("promise 12: serve, the drive mounted longest ago");
        run.due("bring(3, 2, 0)", 0).due("bring(3, 6, 0)", 1).due("bring(3, 5, 3)", 2).due("bring(3, 1, 0)", 3);
        run.due("hold(0, 0)", -1).due("hold(1, 1)", -1).due("hold(2, 2)", -1).due("hold(3, 3)", -1);
        run.due("request(1, 0)", 1).due("serve(0)", 1).due("request(0, 0)", 1).due("serve(0)", 1);
        run.due("count(11)", 0).due("count(12)", 1).due("count(1)", 2);
        // Drive 1 was mounted longest ago, though drive 0 is nearer to the wall 1.
        run.due("request(3, 0)", 1).due("serve(0)", 1).due("count(11)", 0).due("count(12)", 3);
        run.due("shelfOf(6, 0)", 1).due("request(2, 0)", 1).due("serve(0)", 1).due("count(11)", 2).due("count(12)", 3);
        run.due("shelfOf(2, 0)", 0);
        // Taken out and mounted again, drive 0 is the later one now as before; then drive 1.
        run.due("take(0)", 2).due("mount(0)", 0).due("would(0, 3)", Run.NOT_POSSIBLE);
        run.due("request(0, 0)", 1).due("would(0, 3)", 1).due("weigh()", 0).due("turn(4)", 6);
        run.due("take(1)", 3).due("mount(1)", 0).due("would(0, 3)", 0).due("undo()", 3).due("undo()", 2);
        run.due("would(0, 3)", 1);
    }

    private static void promise12NearestEmptyShelf() {
        // Shelves that are full ahead of the serving, and where the cartridge of drive 0 is laid down.
        int[][] cases = {{20}, {2, 30}, {2, 3, 10}, {2, 3, 1, 40}, {2, 3, 1, 4, 0}, {2, 3, 1, 4, 0, 50},
            {2, 3, 1, 4, 0, 5, 70}};
        for (int[] each : cases) {
            Run run = new Run("promise 12: serve, nearest empty shelf " + each[each.length - 1]);
            run.due("bring(3, 2, 0)", 0).due("bring(3, 6, 0)", 1).due("bring(3, 6, 1)", 2);
            run.due("hold(0, 0)", -1).due("hold(1, 1)", -1).due("hold(2, 2)", -1);
            run.due("request(0, 0)", 1).due("serve(0)", 1).due("request(1, 0)", 1).due("serve(0)", 1);
            int cartridge = 3;
            for (int i = 0; i + 1 < each.length; i++) {
                for (int shelf = 0; shelf < 4; shelf++) {
                    run.due("bring(1, " + each[i] + ", " + shelf + ")", cartridge++);
                }
            }
            int place = each[each.length - 1];
            run.due("request(2, 0)", 1).due("serve(0)", 1).due("cartridgeOf(0, 2)", 0).due("cartridgeOf(0, 3)", place);
            run.due("count(11)", 2).due("count(12)", 1);
        }
        Run run = new Run("promise 12: serve, lowest empty shelf, on the way");
        run.due("bring(12, 2, 0)", 0).due("bring(3, 6, 0)", 1).due("bring(20, 4, 1)", 2);
        run.due("hold(0, 0)", -1).due("hold(1, 1)", -1).due("hold(2, 2)", -1);
        run.due("request(0, 0)", 1).due("serve(0)", 1).due("request(1, 0)", 1).due("serve(0)", 1);
        run.due("count(0)", 7 + 9).due("count(1)", 6).due("count(10)", 2);
        for (int shelf = 0; shelf < 4; shelf++) {
            run.due("bring(1, 2, " + shelf + ")", 3 + shelf);
        }
        run.due("bring(1, 3, 0)", 7).due("request(2, 0)", 1).due("weigh()", 0);
        // weigh 1, 4 to the right 4, take 2, weigh 1, 1 to the right 2, lay 1;
        // weigh 1, 1 to the right 1, lift 1, weigh 1, 2 to the left 6, mount 3
        run.due("would(0, 0)", 24).due("would(0, 1)", 4).due("serve(0)", 1).due("count(0)", 16 + 1 + 24);
        run.due("cartridgeOf(0, 3)", 31).due("count(10)", 6).due("count(1)", 2);
    }

    private static void promise12OnlyTheWallBehind() {
        // 30 cartridges, two of them in the drives: of all shelves those of the wall 6 alone are empty.
        Run run = new Run("promise 12: serve, empty shelves at the wall behind alone");
        run.due("bring(3, 2, 0)", 0).due("hold(0, 0)", -1).due("request(0, 0)", 1).due("serve(0)", 1);
        run.due("bring(3, 6, 0)", 1).due("hold(1, 1)", -1).due("request(1, 0)", 1).due("serve(0)", 1);
        int cartridge = 2;
        for (int wall : new int[] {0, 1, 2, 3, 4, 5, 7}) {
            for (int shelf = 0; shelf < 4; shelf++) {
                run.due("bring(1, " + wall + ", " + shelf + ")", cartridge++);
            }
        }
        run.error("bring(1, 6, 0)", Run.LIMIT).due("hold(2, 2)", -1).due("request(2, 0)", 1);
        // From the wall 6: weigh 1, 4 walls 4, take 2, weigh 1, 4 walls 4, lay 1;
        // weigh 1, 2 walls 2, lift 1, weigh 1, 2 walls 2, mount 3
        run.due("would(0, 0)", 23).due("would(0, 1)", 4).due("would(0, 3)", 0).due("serve(0)", 1);
        run.due("cartridgeOf(0, 3)", 60).due("cartridgeOf(0, 2)", 0).due("shelfOf(0, 0)", Run.NOT_FOUND);
        run.due("count(11)", 2).due("count(12)", 1);
    }

    private static void promise12WayByWeight() {
        Run run = new Run("promise 12: serve, way by weight");
        run.due("bring(20, 5, 0)", 0).due("bring(1, 6, 0)", 1).due("bring(2, 0, 2)", 2);
        run.due("hold(0, 0)", -1).due("hold(1, 1)", -1).due("request(1, 0)", 1).due("request(0, 0)", 2);
        // weigh 1, 2 to the left 2, lift 1, mount 3
        run.due("serve(0)", 1).due("count(0)", 7).due("count(10)", 1).due("count(1)", 6);
        // weigh 1, 1 to the left 1, lift 1; then to the wall 2: weigh 1, 2 to the left 6, weigh 1, 1 to the left 3; mount 3
        run.due("serve(0)", 1).due("count(0)", 7 + 17).due("count(10)", 4).due("count(1)", 2);
    }

    private static void promise12Worn() {
        Run run = new Run("promise 12: serve, worn");
        run.due("bring(4, 2, 0)", 0).due("hold(0, 1)", -1).due("weigh()", 0).due("turn(2)", 2).due("lift(0)", 0);
        for (int times = 1; times <= 5; times++) {
            run.due("mount(0)", 0).due("take(0)", 0);
        }
        run.due("lay(3)", 0).due("request(1, 0)", 1).due("serve(0)", 1).due("take(0)", 0).due("lay(0)", 0);
        run.due("request(1, 0)", 1).due("nextBy(0)", Run.NOT_FOUND).error("serve(0)", Run.NOT_POSSIBLE);
        run.due("cartridgeOf(0, 1)", 6).due("count(7)", 1).due("hold(0, 2)", -1).due("cartridgeOf(0, 5)", 1);
    }
}
