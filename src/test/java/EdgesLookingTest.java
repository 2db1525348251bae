/** The edges of the promises 13 to 16: a test for each sentence that names one. */
public final class EdgesLookingTest {
    public static void main(String[] args) {
        cartridgeOfCartridge();
        cartridgeOfWhat();
        cartridgeOfWeight();
        cartridgeOfWear();
        cartridgeOfOnAShelf();
        cartridgeOfOnThePallet();
        cartridgeOfInADrive();
        cartridgeOfWithANeighbor();
        cartridgeOfFiles();
        cartridgeOfRequests();
        cartridgeOfServed();
        cartridgeOfErrorsInOrder();
        shelfOfWall();
        shelfOfShelf();
        shelfOfEmpty();
        shelfOfErrorsInOrder();
        holderFile();
        holderNone();
        holderWhereverItIs();
        requestOfIndex();
        requestOfWhat();
        requestOfNotSoMany();
        requestOfCameFirst();
        requestOfErrorsInOrder();
        Run.end();
    }

    private static Run two(String name) {
        return new Run(name).due("bring(1, 0, 0)", 0).due("bring(20, 7, 3)", 1);
    }

    private static void cartridgeOfCartridge() {
        Run none = new Run("promise 13: if there is no cartridge with a certain number, none at all");
        none.each("cartridgeOf(0, #)", 0, 6, Run.INVALID).error("cartridgeOf(-1, 0)", Run.INVALID);
        Run run = two("promise 13: number of the cartridge");
        for (int what = 0; what <= 6; what++) {
            run.range("cartridgeOf(#, " + what + ")", 0, 1);
        }
        run.due("cartridgeOf(0, 0)", 1).due("cartridgeOf(1, 0)", 20).due("undo()", 1);
        run.error("cartridgeOf(1, 0)", Run.INVALID);
        Run full = new Run("promise 13: the last cartridge that there can be");
        for (int cartridge = 0; cartridge < 30; cartridge++) {
            full.due("bring(3, " + cartridge % 8 + ", " + cartridge / 8 + ")", cartridge);
        }
        full.range("cartridgeOf(#, 0)", 0, 29).due("cartridgeOf(29, 3)", 53).due("cartridgeOf(28, 3)", 43);
    }

    private static void cartridgeOfWhat() {
        two("promise 13: what: 0 to 6").range("cartridgeOf(0, #)", 0, 6).range("cartridgeOf(1, #)", 0, 6)
            .error("cartridgeOf(0, 0)", 1).error("cartridgeOf(0, 6)", 0);
    }

    private static void cartridgeOfWeight() {
        Run run = two("promise 13: 0: its weight").due("cartridgeOf(0, 0)", 1).due("cartridgeOf(1, 0)", 20);
        run.due("lift(0)", 0).due("cartridgeOf(0, 0)", 1).due("send(1, -1, -1)", 1).due("cartridgeOf(1, 0)", 20);
    }

    private static void cartridgeOfWear() {
        Run run = two("promise 13: 1: its wear").due("bring(1, 2, 0)", 2).due("weigh()", 0).due("turn(2)", 2);
        run.due("lift(0)", 2).due("cartridgeOf(2, 1)", 0);
        for (int wear = 1; wear <= 6; wear++) {
            run.due("mount(0)", 0).due("cartridgeOf(2, 1)", wear).due("take(0)", 2).due("cartridgeOf(2, 1)", wear);
        }
        run.error("mount(0)", Run.NOT_POSSIBLE).due("cartridgeOf(0, 1)", 0).due("cartridgeOf(1, 1)", 0);
    }

    private static void cartridgeOfOnAShelf() {
        for (int wall = 0; wall < 8; wall++) {
            for (int shelf = 0; shelf < 4; shelf++) {
                Run run = new Run("promise 13: ten times its wall plus its shelf");
                run.due("bring(3, " + wall + ", " + shelf + ")", 0).due("cartridgeOf(0, 2)", 0);
                run.due("cartridgeOf(0, 3)", 10 * wall + shelf);
            }
        }
    }

    private static void cartridgeOfOnThePallet() {
        Run run = new Run("promise 13: its place on the pile (0 is the lowest one)").due("bring(3, 0, 0)", 0);
        run.due("bring(3, 0, 1)", 1).due("bring(3, 0, 2)", 2).due("lift(1)", 1).due("lift(2)", 2).due("lift(0)", 0);
        run.told("cartridgeOf(1, ", 3, 0, 1, 0).told("cartridgeOf(2, ", 3, 0, 1, 1).told("cartridgeOf(0, ", 3, 0, 1, 2);
        run.due("lay(3)", 0).told("cartridgeOf(0, ", 3, 0, 0, 3).told("cartridgeOf(2, ", 3, 0, 1, 1);
    }

    private static void cartridgeOfInADrive() {
        Run run = new Run("promise 13: or its drive").due("bring(3, 2, 0)", 0).due("bring(3, 2, 1)", 1);
        run.due("weigh()", 0).due("turn(2)", 2).due("lift(0)", 0).due("lift(1)", 1).due("mount(0)", 0);
        run.due("weigh()", 3).due("turn(4)", 6).due("mount(1)", 0);
        run.told("cartridgeOf(1, ", 3, 1, 2, 0).told("cartridgeOf(0, ", 3, 1, 2, 1);
    }

    private static void cartridgeOfWithANeighbor() {
        Run run = two("promise 13: NOT_FOUND for 3 if it is with a neighbor").due("send(0, -1, -1)", 1);
        run.told("cartridgeOf(0, ", 1, 0, 3, Run.NOT_FOUND, 0, 0, 0).error("cartridgeOf(0, 3)", Run.NOT_FOUND);
        run.due("send(0, 0, 0)", 0).told("cartridgeOf(0, ", 1, 0, 0, 0);
    }

    private static void cartridgeOfFiles() {
        Run run = two("promise 13: 4: how many files it holds").due("cartridgeOf(0, 4)", 0);
        for (int file = 0; file < 4; file++) {
            run.due("hold(0, " + file + ")", -1).due("cartridgeOf(0, 4)", file + 1);
        }
        run.due("hold(0, 4)", Run.LIMIT).due("cartridgeOf(0, 4)", 4).due("hold(0, 3)", 0).due("cartridgeOf(0, 4)", 4);
        run.due("hold(1, 0)", 0).due("cartridgeOf(0, 4)", 3).due("cartridgeOf(1, 4)", 1);
        for (int file = 1; file < 4; file++) {
            run.due("hold(1, " + file + ")", 0);
        }
        run.due("cartridgeOf(0, 4)", 0).due("cartridgeOf(1, 4)", 4);
    }

    private static void cartridgeOfRequests() {
        Run run = two("promise 13: 5: how many requests wait for these").due("request(7, 0)", 1);
        run.due("cartridgeOf(0, 5)", 0);
        run.due("hold(0, 7)", -1).due("cartridgeOf(0, 5)", 1);
        for (int waiting = 2; waiting <= 12; waiting++) {
            run.due("request(7, 0)", waiting).due("cartridgeOf(0, 5)", waiting).due("cartridgeOf(1, 5)", 0);
        }
        run.due("hold(1, 7)", 0).due("cartridgeOf(0, 5)", 0).due("cartridgeOf(1, 5)", 12).due("send(1, -1, -1)", 1);
        run.due("cartridgeOf(1, 5)", 12);
    }

    private static void cartridgeOfServed() {
        Run run = two("promise 13: 6: how many requests were served by it so far").due("hold(0, 7)", -1);
        run.due("hold(1, 8)", -1);
        run.due("request(7, 0)", 1).due("request(7, 0)", 2).due("serve(0)", 2).due("cartridgeOf(0, 6)", 2);
        run.due("request(7, 0)", 1).due("request(8, 0)", 2).due("cartridgeOf(0, 6)", 2).due("take(0)", 0);
        run.due("mount(0)", 1);
        run.due("cartridgeOf(0, 6)", 3).due("cartridgeOf(1, 6)", 0).due("serve(0)", 1).due("cartridgeOf(1, 6)", 1);
        run.due("hold(1, 7)", 0).due("cartridgeOf(0, 6)", 3).due("cartridgeOf(1, 6)", 1).due("count(9)", 4);
    }

    private static void cartridgeOfErrorsInOrder() {
        Run run = two("promise 13: INVALID_ARGUMENT rather than NOT_FOUND").due("send(0, -1, -1)", 1);
        run.error("cartridgeOf(2, 3)", Run.INVALID).error("cartridgeOf(-1, 3)", Run.INVALID);
        run.error("cartridgeOf(0, 7)", Run.INVALID).error("cartridgeOf(0, -1)", Run.INVALID);
    }

    private static void shelfOfWall() {
        Run run = two("promise 14: wall: 0 to 7").range("shelfOf(#, 0)", 0, 7).range("shelfOf(#, 3)", 0, 7);
        run.error("shelfOf(0, 0)", 0).error("shelfOf(7, 3)", 1);
        Run around = new Run("promise 14: the wall around is another one");
        for (int wall = 0; wall < 8; wall++) {
            around.due("bring(3, " + wall + ", 3)", wall);
        }
        around.error("shelfOf(-1, 3)", Run.INVALID).error("shelfOf(8, 3)", Run.INVALID).due("shelfOf(7, 3)", 7);
    }

    private static void shelfOfShelf() {
        Run run = two("promise 14: shelf: 0 to 3").due("bring(3, 1, 0)", 2).due("bring(3, 6, 3)", 3);
        run.range("shelfOf(0, #)", 0, 3).range("shelfOf(7, #)", 0, 3).range("shelfOf(1, #)", 0, 3);
        run.due("shelfOf(0, 3)", Run.NOT_FOUND).due("shelfOf(1, 0)", 2).due("shelfOf(7, 0)", Run.NOT_FOUND);
        run.due("shelfOf(6, 3)", 3);
    }

    private static void shelfOfEmpty() {
        Run run = new Run("promise 14: NOT_FOUND if the shelf is empty").error("shelfOf(0, 0)", Run.NOT_FOUND);
        run.error("shelfOf(7, 3)", Run.NOT_FOUND).due("bring(3, 0, 0)", 0).due("shelfOf(0, 0)", 0).due("lift(0)", 0);
        run.error("shelfOf(0, 0)", Run.NOT_FOUND).due("lay(1)", 0).due("shelfOf(0, 1)", 0).due("send(0, -1, -1)", 1);
        run.error("shelfOf(0, 1)", Run.NOT_FOUND);
    }

    private static void shelfOfErrorsInOrder() {
        Run run = new Run("promise 14: INVALID_ARGUMENT rather than NOT_FOUND");
        run.error("shelfOf(8, 0)", Run.INVALID).error("shelfOf(0, 4)", Run.INVALID);
        run.error("shelfOf(-1, -1)", Run.INVALID);
    }

    private static void holderFile() {
        Run run = two("promise 15: file: 0 to 59").due("hold(1, 0)", -1).due("hold(0, 59)", -1);
        run.range("holder(#)", 0, 59);
        run.error("holder(0)", 1).error("holder(59)", 0).error("holder(1)", Run.NOT_FOUND);
        run.error("holder(58)", Run.NOT_FOUND);
    }

    private static void holderNone() {
        Run run = two("promise 15: NOT_FOUND if none does").each("holder(#)", 0, 59, Run.NOT_FOUND);
        run.due("hold(0, 5)", -1);
        run.due("holder(5)", 0).due("undo()", 2).error("holder(5)", Run.NOT_FOUND).error("holder(60)", Run.INVALID);
    }

    private static void holderWhereverItIs() {
        Run run = two("promise 15: the cartridge that holds a file, wherever it is").due("hold(0, 5)", -1);
        run.due("hold(1, 6)", -1).due("lift(0)", 0).due("holder(5)", 0).due("send(1, -1, -1)", 1).due("holder(6)", 1);
        run.due("weigh()", 1).due("turn(2)", 2).due("mount(0)", 0).due("holder(5)", 0).due("hold(0, 6)", 1);
        run.due("holder(6)", 0);
    }

    private static Run threeRequests(String name) {
        Run run = new Run(name).due("request(59, 9)", 1).due("weigh()", 0).due("request(0, 0)", 2).due("weigh()", 0);
        return run.due("request(30, 5)", 3);
    }

    private static void requestOfIndex() {
        Run run = threeRequests("promise 16: INVALID_ARGUMENT if an argument is negative");
        run.error("requestOf(-1, 0)", Run.INVALID).error("requestOf(-1, 2)", Run.INVALID);
        run.error("requestOf(-2147483648, 1)", Run.INVALID).error("requestOf(0, -1)", Run.INVALID);
        run.told("requestOf(0, ", 59, 9, 0).told("requestOf(2, ", 30, 5, 2);
    }

    private static void requestOfWhat() {
        Run run = threeRequests("promise 16: what: 0: its file; 1: its rank; 2: the tick at which it came");
        run.range("requestOf(0, #)", 0, 2).range("requestOf(2, #)", 0, 2).told("requestOf(1, ", 0, 0, 1, Run.INVALID);
    }

    private static void requestOfNotSoMany() {
        Run none = new Run("promise 16: NOT_FOUND if there are not so many, none").error("requestOf(0, 0)", Run.NOT_FOUND);
        none.error("requestOf(0, 1)", Run.NOT_FOUND).error("requestOf(0, 2)", Run.NOT_FOUND);
        Run run = threeRequests("promise 16: NOT_FOUND if there are not so many");
        run.each("requestOf(3, #)", 0, 2, Run.NOT_FOUND).error("requestOf(11, 0)", Run.NOT_FOUND);
        run.error("requestOf(12, 0)", Run.NOT_FOUND).error("requestOf(2147483647, 2)", Run.NOT_FOUND);
        Run full = new Run("promise 16: NOT_FOUND if there are not so many, 12");
        for (int waiting = 1; waiting <= 12; waiting++) {
            full.due("request(" + waiting + ", 1)", waiting);
        }
        full.told("requestOf(11, ", 12, 1, 0).each("requestOf(12, #)", 0, 2, Run.NOT_FOUND);
    }

    private static void requestOfCameFirst() {
        Run run = threeRequests("promise 16: index: 0 for the one that came first, and so on");
        run.due("bring(3, 2, 0)", 0).due("hold(0, 59)", -1).due("request(1, 1)", 4).due("serve(0)", 1);
        run.told("requestOf(0, ", 0, 0, 1).told("requestOf(1, ", 30, 5, 2).told("requestOf(2, ", 1, 1, 2);
        run.error("requestOf(3, 0)", Run.NOT_FOUND).due("request(59, 2)", 4).told("requestOf(3, ", 59, 2, 9);
    }

    private static void requestOfErrorsInOrder() {
        Run run = new Run("promise 16: INVALID_ARGUMENT rather than NOT_FOUND");
        run.error("requestOf(0, 3)", Run.INVALID).error("requestOf(0, -1)", Run.INVALID);
        run.error("requestOf(-1, 0)", Run.INVALID);
        run.error("requestOf(12, 3)", Run.INVALID);
    }
}
