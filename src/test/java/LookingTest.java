/** Promises 13 to 16. */
public final class LookingTest {
    public static void main(String[] args) {
        promise13CartridgeOf();
        promise14ShelfOf();
        promise15Holder();
        promise16RequestOf();
        Run.end();
    }

    private static void promise13CartridgeOf() {
        Run run = new Run("promise 13: cartridgeOf");
        run.error("cartridgeOf(0, 0)", Run.INVALID);
        run.due("bring(17, 2, 3)", 0).due("bring(4, 2, 1)", 1).due("bring(5, 5, 0)", 2);
        run.error("cartridgeOf(-1, 0)", Run.INVALID).error("cartridgeOf(3, 0)", Run.INVALID);
        run.error("cartridgeOf(0, -1)", Run.INVALID).error("cartridgeOf(0, 7)", Run.INVALID);
        run.error("cartridgeOf(2147483647, 0)", Run.INVALID).error("cartridgeOf(0, -2147483648)", Run.INVALID);
        told(run, 0, 17, 0, 0, 23, 0, 0, 0);
        told(run, 2, 5, 0, 0, 50, 0, 0, 0);
        run.due("hold(0, 1)", -1).due("hold(0, 2)", -1).due("hold(1, 3)", -1).due("request(1, 0)", 1);
        run.due("request(1, 0)", 2).due("request(2, 0)", 3).due("request(3, 0)", 4).due("request(4, 0)", 5);
        told(run, 0, 17, 0, 0, 23, 2, 3, 0);
        told(run, 1, 4, 0, 0, 21, 1, 1, 0);
        run.due("weigh()", 0).due("turn(2)", 2).due("lift(1)", 1).due("lift(3)", 0);
        told(run, 1, 4, 0, 1, 0, 1, 1, 0);
        told(run, 0, 17, 0, 1, 1, 2, 3, 0);
        run.due("mount(0)", 3);
        told(run, 0, 17, 1, 2, 0, 2, 0, 3);
        run.due("weigh()", 4).due("turn(4)", 6).due("mount(1)", 1);
        told(run, 1, 4, 1, 2, 1, 1, 0, 1);
        run.due("request(3, 5)", 2).due("take(1)", 1).due("lay(2)", 1);
        told(run, 1, 4, 1, 0, 62, 1, 1, 1);
        run.due("send(1, -1, -1)", 1);
        told(run, 1, 4, 1, 3, Run.NOT_FOUND, 1, 1, 1);
        run.error("cartridgeOf(1, 7)", Run.INVALID).error("cartridgeOf(3, 3)", Run.INVALID);
        told(run, 2, 5, 0, 0, 50, 0, 0, 0);
    }

    private static void told(Run run, int cartridge, int... told) {
        for (int what = 0; what < told.length; what++) {
            run.due("cartridgeOf(" + cartridge + ", " + what + ")", told[what]);
        }
    }

    private static void promise14ShelfOf() {
        Run run = new Run("promise 14: shelfOf");
        run.due("bring(1, 7, 0)", 0).due("bring(1, 0, 3)", 1).due("bring(1, 3, 2)", 2);
        run.due("shelfOf(7, 0)", 0).due("shelfOf(0, 3)", 1).due("shelfOf(3, 2)", 2);
        run.due("shelfOf(7, 3)", Run.NOT_FOUND).due("shelfOf(0, 0)", Run.NOT_FOUND).due("shelfOf(2, 3)", Run.NOT_FOUND);
        run.error("shelfOf(-1, 0)", Run.INVALID).error("shelfOf(8, 0)", Run.INVALID);
        run.error("shelfOf(0, -1)", Run.INVALID).error("shelfOf(0, 4)", Run.INVALID);
        run.error("shelfOf(-1, 4)", Run.INVALID).error("shelfOf(2147483647, 2147483647)", Run.INVALID);
        run.error("shelfOf(8, -4)", Run.INVALID).error("shelfOf(536870912, 0)", Run.INVALID);
        run.due("lift(3)", 1).due("shelfOf(0, 3)", Run.NOT_FOUND).due("lay(0)", 1).due("shelfOf(0, 0)", 1);
        run.due("send(0, -1, -1)", 1).due("shelfOf(7, 0)", Run.NOT_FOUND);
    }

    private static void promise15Holder() {
        Run run = new Run("promise 15: holder");
        run.due("bring(1, 7, 0)", 0).due("bring(1, 0, 3)", 1).due("hold(1, 0)", -1).due("hold(0, 59)", -1);
        run.due("holder(0)", 1).due("holder(59)", 0).due("holder(30)", Run.NOT_FOUND);
        run.error("holder(-1)", Run.INVALID).error("holder(60)", Run.INVALID).error("holder(-2147483648)", Run.INVALID);
        run.due("lift(3)", 1).due("holder(0)", 1).due("send(0, -1, -1)", 1).due("holder(59)", 0);
        run.due("hold(1, 59)", 0).due("holder(59)", 1).due("undo()", 3).due("holder(59)", 0);
    }

    private static void promise16RequestOf() {
        Run run = new Run("promise 16: requestOf");
        run.error("requestOf(0, 0)", Run.NOT_FOUND).error("requestOf(0, 3)", Run.INVALID);
        run.due("request(3, 9)", 1).due("weigh()", 0).due("request(3, 0)", 2).due("weigh()", 0).due("weigh()", 0);
        run.due("request(58, 4)", 3);
        int[][] told = {{3, 9, 0}, {3, 0, 1}, {58, 4, 3}};
        for (int index = 0; index < told.length; index++) {
            for (int what = 0; what < 3; what++) {
                run.due("requestOf(" + index + ", " + what + ")", told[index][what]);
            }
        }
        run.error("requestOf(-1, 0)", Run.INVALID).error("requestOf(0, -1)", Run.INVALID);
        run.error("requestOf(0, 3)", Run.INVALID).error("requestOf(3, 0)", Run.NOT_FOUND);
        run.error("requestOf(11, 1)", Run.NOT_FOUND).error("requestOf(12, 2)", Run.NOT_FOUND);
        run.error("requestOf(2147483647, 0)", Run.NOT_FOUND).error("requestOf(3, 3)", Run.INVALID);
        run.error("requestOf(-2147483648, 0)", Run.INVALID);
        run.due("undo()", 3).due("requestOf(2, 0)", Run.NOT_FOUND).due("requestOf(1, 2)", 1);
    }
}
