/** Promises 1 to 3. */
public final class NewAndNeighborsTest {
    public static void main(String[] args) {
        promise1NewObject();
        promise2Bring();
        promise2BringLimit();
        promise3SendThere();
        promise3SendBack();
        promise3SendKeepsWhatItIs();
        Run.end();
    }

    private static void promise1NewObject() {
        Run run = new Run("promise 1: a new object");
        int[] counts = {0, 0, 0, 0, 0, 0, 0, 0, 0, 0, 0, Run.NOT_FOUND, Run.NOT_FOUND, 0, 0, 0};
        for (int what = 0; what < counts.length; what++) {
            run.due("count(" + what + ")", counts[what]);
        }
        for (int wall = 0; wall < 8; wall++) {
            for (int shelf = 0; shelf < 4; shelf++) {
                run.due("shelfOf(" + wall + ", " + shelf + ")", Run.NOT_FOUND);
            }
        }
        for (int file = 0; file < 60; file++) {
            run.due("holder(" + file + ")", Run.NOT_FOUND);
        }
        run.due("cartridgeOf(0, 0)", Run.INVALID).due("requestOf(0, 0)", Run.NOT_FOUND);
        run.due("nextBy(0)", Run.NOT_FOUND).due("would(0, 0)", Run.NOT_POSSIBLE);
        run.due("fault(0)", Run.NOT_FOUND).due("clearText()", 0).due("undo()", Run.NOT_POSSIBLE);
        run.due("turn(1)", Run.NOT_POSSIBLE);
    }

    private static void promise2Bring() {
        Run run = new Run("promise 2: bring");
        run.due("weigh()", 0);
        run.due("bring(1, 0, 0)", 0).due("bring(20, 7, 3)", 1).due("bring(13, 4, 2)", 2);
        run.due("count(0)", 1).due("count(4)", 1).due("count(5)", 3).due("count(14)", 4);
        run.due("shelfOf(0, 0)", 0).due("shelfOf(7, 3)", 1).due("shelfOf(4, 2)", 2);
        int[] told = {20, 0, 0, 73, 0, 0, 0};
        for (int what = 0; what < told.length; what++) {
            run.due("cartridgeOf(1, " + what + ")", told[what]);
        }
        run.due("cartridgeOf(0, 0)", 1).due("cartridgeOf(0, 3)", 0);
        run.due("cartridgeOf(2, 0)", 13).due("cartridgeOf(2, 3)", 42);
        run.error("bring(0, 1, 1)", Run.INVALID).error("bring(21, 1, 1)", Run.INVALID);
        run.error("bring(5, -1, 1)", Run.INVALID).error("bring(5, 8, 1)", Run.INVALID);
        run.error("bring(5, 1, -1)", Run.INVALID).error("bring(5, 1, 4)", Run.INVALID);
        run.error("bring(-2147483648, 1, 1)", Run.INVALID).error("bring(5, 2147483647, 1)", Run.INVALID);
        run.error("bring(5, 1, -2147483648)", Run.INVALID);
        run.error("bring(5, 0, 0)", Run.NOT_POSSIBLE).error("bring(5, 7, 3)", Run.NOT_POSSIBLE);
        run.error("bring(21, 0, 0)", Run.INVALID);
        run.due("bring(5, 0, 1)", 3);
    }

    private static void promise2BringLimit() {
        Run run = new Run("promise 2: bring, limit");
        for (int cartridge = 0; cartridge < 30; cartridge++) {
            run.due("bring(3, " + cartridge / 4 + ", " + cartridge % 4 + ")", cartridge);
        }
        run.error("bring(3, 7, 2)", Run.LIMIT).error("bring(3, 7, 1)", Run.NOT_POSSIBLE);
        run.error("bring(0, 7, 2)", Run.INVALID);
        run.due("send(29, -1, -1)", 1).error("bring(3, 7, 1)", Run.LIMIT);
        run.due("count(5)", 30).due("cartridgeOf(29, 0)", 3).due("cartridgeOf(30, 0)", Run.INVALID);
    }

    private static void promise3SendThere() {
        Run run = new Run("promise 3: send, a neighbor gets it");
        run.due("bring(5, 2, 0)", 0).due("bring(6, 0, 0)", 1).due("bring(7, 0, 1)", 2).due("weigh()", 0);
        run.error("send(-1, -1, -1)", Run.INVALID).error("send(3, -1, -1)", Run.INVALID);
        run.error("send(0, -1, 0)", Run.INVALID).error("send(0, 0, -1)", Run.INVALID);
        run.error("send(0, -2, -1)", Run.INVALID).error("send(0, -1, -2)", Run.INVALID);
        run.error("send(0, -2, -2)", Run.INVALID).error("send(0, -1, 4)", Run.INVALID);
        run.error("send(-2147483648, 0, 0)", Run.INVALID).error("send(2147483647, -1, -1)", Run.INVALID);
        run.due("send(0, -1, -1)", 1).due("send(2, -1, -1)", 2);
        run.due("count(4)", 1).due("count(0)", 1).due("count(6)", 2).due("count(14)", 4);
        run.due("shelfOf(2, 0)", Run.NOT_FOUND).due("cartridgeOf(0, 2)", 3).due("cartridgeOf(1, 2)", 0);
        run.error("send(0, -1, -1)", Run.NOT_POSSIBLE);
        run.due("lift(0)", 1).error("send(1, -1, -1)", Run.NOT_POSSIBLE);
        run.due("weigh()", 6).due("turn(2)", 2).due("mount(0)", 0).error("send(1, -1, -1)", Run.NOT_POSSIBLE);
    }

    private static void promise3SendBack() {
        Run run = new Run("promise 3: send, back onto a shelf");
        run.due("bring(5, 2, 0)", 0).due("bring(6, 3, 0)", 1).due("send(1, -1, -1)", 1);
        run.error("send(1, 8, 0)", Run.INVALID).error("send(1, 0, 4)", Run.INVALID);
        run.error("send(1, -1, 3)", Run.INVALID).error("send(1, 7, -1)", Run.INVALID);
        run.error("send(1, 2, 0)", Run.NOT_POSSIBLE).error("send(0, 5, 0)", Run.NOT_POSSIBLE);
        run.error("send(0, 2, 0)", Run.NOT_POSSIBLE).error("send(0, 8, 0)", Run.INVALID);
        run.due("send(1, 7, 3)", 0).due("shelfOf(7, 3)", 1).due("cartridgeOf(1, 3)", 73);
        run.due("shelfOf(3, 0)", Run.NOT_FOUND).due("count(6)", 0).due("count(0)", 0);
        run.due("send(1, -1, -1)", 1).due("send(0, -1, -1)", 2).due("send(1, 2, 0)", 1);
        run.due("shelfOf(2, 0)", 1).due("shelfOf(7, 3)", Run.NOT_FOUND);
        run.due("count(14)", 4).due("undo()", 3).due("cartridgeOf(1, 2)", 3).due("shelfOf(2, 0)", Run.NOT_FOUND);
    }

    private static void promise3SendKeepsWhatItIs() {
        Run run = new Run("promise 3: send, with its files");
        run.due("bring(5, 1, 0)", 0).due("hold(0, 8)", -1).due("hold(0, 9)", -1).due("request(8, 1)", 1);
        run.due("serve(0)", 1).due("take(0)", 0).due("lay(0)", 0).due("send(0, -1, -1)", 1);
        run.due("holder(8)", 0).due("cartridgeOf(0, 4)", 2).due("count(13)", 2);
        run.due("send(0, 5, 1)", 0).due("cartridgeOf(0, 0)", 5).due("cartridgeOf(0, 1)", 1);
        run.due("cartridgeOf(0, 6)", 1).due("holder(9)", 0).due("cartridgeOf(0, 3)", 51);
    }
}
