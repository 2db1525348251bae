/** The edges of the promises 1 to 3: a test for each sentence that names one. */
public final class EdgesNeighborsTest {
    public static void main(String[] args) {
        newWithoutCartridges();
        newPallet();
        newMast();
        newHistoryAndText();
        bringWeight();
        bringWall();
        bringShelf();
        bringNumbers();
        bringHoldsNoFiles();
        bringShelfNotEmpty();
        bringShelfEmptyAgain();
        bringThirty();
        bringThirtyWithNeighbors();
        bringErrorsInOrder();
        sendCartridge();
        sendWall();
        sendShelf();
        sendJustOneIsMinusOne();
        sendGotOnlyFromAShelf();
        sendBackOnlyFromANeighbor();
        sendShelfNotEmpty();
        sendHowManyWithNeighbors();
        sendWithItsFiles();
        sendErrorsInOrder();
        Run.end();
    }

    private static void newWithoutCartridges() {
        Run run = new Run("promise 1: a library without cartridges");
        run.due("count(5)", 0).due("count(6)", 0).due("count(7)", 0).due("count(13)", 0);
        run.each("cartridgeOf(0, #)", 0, 6, Run.INVALID).each("holder(#)", 0, 59, Run.NOT_FOUND);
        for (int wall = 0; wall < 8; wall++) {
            run.each("shelfOf(" + wall + ", #)", 0, 3, Run.NOT_FOUND);
        }
        run.due("count(11)", Run.NOT_FOUND).due("count(12)", Run.NOT_FOUND);
        run.error("send(0, -1, -1)", Run.INVALID).error("hold(0, 0)", Run.INVALID);
    }

    private static void newPallet() {
        Run run = new Run("promise 1: the pallet is empty and not weighed");
        run.due("count(2)", 0).due("count(3)", 0).due("count(4)", 0);
        run.error("lay(0)", Run.NOT_POSSIBLE).error("turn(1)", Run.NOT_POSSIBLE).error("turn(-1)", Run.NOT_POSSIBLE);
    }

    private static void newMast() {
        Run run = new Run("promise 1: the mast looks at one wall (0 at first)");
        run.due("count(1)", 0).due("count(0)", 0).due("count(10)", 0).due("wayTo(0)", 0).due("wayTo(1)", 2);
        run.due("wayTo(7)", 2).due("bring(1, 0, 0)", 0).due("lift(0)", 0);
    }

    private static void newHistoryAndText() {
        Run run = new Run("promise 1: no requests, no history, no text");
        run.due("count(8)", 0).due("count(9)", 0).due("count(14)", 0).due("count(15)", 0);
        run.error("requestOf(0, 0)", Run.NOT_FOUND).error("undo()", Run.NOT_POSSIBLE);
        run.each("nextBy(#)", 0, 3, Run.NOT_FOUND).error("clearText()", 0).each("fault(#)", 0, 2, Run.NOT_FOUND);
    }

    private static void bringWeight() {
        Run run = new Run("promise 2: weight: 1 to 20");
        run.range("bring(#, 0, 0)", 1, 20).due("count(5)", 0);
        run.due("bring(1, 0, 0)", 0).due("bring(20, 0, 1)", 1).due("bring(2, 0, 2)", 2).due("bring(19, 0, 3)", 3);
        run.due("cartridgeOf(0, 0)", 1).due("cartridgeOf(1, 0)", 20).due("cartridgeOf(2, 0)", 2);
        run.due("cartridgeOf(3, 0)", 19).range("bring(#, 1, 0)", 1, 20);
    }

    private static void bringWall() {
        Run run = new Run("promise 2: wall: 0 to 7");
        run.range("bring(5, #, 0)", 0, 7).range("bring(5, #, 3)", 0, 7);
        for (int wall = 0; wall <= 7; wall++) {
            run.due("bring(5, " + wall + ", 1)", wall).due("shelfOf(" + wall + ", 1)", wall);
            run.due("cartridgeOf(" + wall + ", 3)", 10 * wall + 1);
        }
    }

    private static void bringShelf() {
        Run run = new Run("promise 2: shelf: 0 to 3");
        run.range("bring(5, 0, #)", 0, 3).range("bring(5, 3, #)", 0, 3).range("bring(5, 7, #)", 0, 3);
        for (int shelf = 0; shelf <= 3; shelf++) {
            run.due("bring(5, 6, " + shelf + ")", shelf).due("shelfOf(6, " + shelf + ")", shelf);
            run.due("cartridgeOf(" + shelf + ", 3)", 60 + shelf);
        }
        run.due("shelfOf(5, 3)", Run.NOT_FOUND).due("shelfOf(7, 0)", Run.NOT_FOUND);
    }

    private static void bringNumbers() {
        Run run = new Run("promise 2: numbered from 0 in the order in which they came");
        run.due("bring(5, 7, 3)", 0).due("bring(5, 0, 0)", 1).due("send(0, -1, -1)", 1).due("bring(5, 7, 3)", 2);
        run.due("undo()", 3).due("bring(9, 3, 3)", 2).due("cartridgeOf(2, 0)", 9).due("shelfOf(7, 3)", Run.NOT_FOUND);
        run.due("count(5)", 3).due("cartridgeOf(3, 0)", Run.INVALID);
    }

    private static void bringHoldsNoFiles() {
        Run run = new Run("promise 2: a new cartridge, which holds no files");
        run.due("bring(5, 1, 1)", 0).told("cartridgeOf(0, ", 5, 0, 0, 11, 0, 0, 0).due("hold(0, 8)", -1);
        run.due("request(8, 1)", 1).due("serve(0)", 1).due("undo()", 3).due("undo()", 2).due("undo()", 1);
        run.due("undo()", 0);
        run.due("bring(6, 2, 2)", 0).told("cartridgeOf(0, ", 6, 0, 0, 22, 0, 0, 0).due("holder(8)", Run.NOT_FOUND);
        run.due("request(8, 1)", 1).due("cartridgeOf(0, 5)", 0).due("count(0)", 0);
    }

    private static void bringShelfNotEmpty() {
        Run run = new Run("promise 2: NOT_POSSIBLE if the shelf is not empty");
        run.due("bring(5, 0, 0)", 0).due("bring(5, 7, 3)", 1);
        run.error("bring(5, 0, 0)", Run.NOT_POSSIBLE).error("bring(1, 7, 3)", Run.NOT_POSSIBLE);
        run.due("lift(0)", 0).due("lay(2)", 0).error("bring(5, 0, 2)", Run.NOT_POSSIBLE);
        run.due("send(1, -1, -1)", 1).due("send(1, 4, 1)", 0).error("bring(5, 4, 1)", Run.NOT_POSSIBLE);
    }

    private static void bringShelfEmptyAgain() {
        Run run = new Run("promise 2: a shelf that is empty again");
        run.due("bring(5, 0, 0)", 0).due("lift(0)", 0).due("bring(6, 0, 0)", 1).error("lay(0)", Run.NOT_POSSIBLE);
        run.due("send(1, -1, -1)", 1).due("bring(7, 0, 0)", 2).error("send(1, 0, 0)", Run.NOT_POSSIBLE);
        run.due("undo()", 3).due("send(1, 0, 0)", 0).error("bring(7, 0, 0)", Run.NOT_POSSIBLE);
    }

    private static Run thirty(String name) {
        Run run = new Run(name);
        for (int cartridge = 0; cartridge < 30; cartridge++) {
            run.due("bring(3, " + cartridge / 4 + ", " + cartridge % 4 + ")", cartridge);
        }
        return run;
    }

    private static void bringThirty() {
        Run run = thirty("promise 2: LIMIT_REACHED if there are 30 cartridges");
        run.due("count(5)", 30).error("bring(3, 7, 2)", Run.LIMIT).error("bring(3, 7, 3)", Run.LIMIT);
        run.due("undo()", 3).due("count(5)", 29).due("bring(4, 7, 3)", 29).error("bring(3, 7, 2)", Run.LIMIT);
    }

    private static void bringThirtyWithNeighbors() {
        Run run = thirty("promise 2: at most 30 cartridges in all, wherever they are");
        run.due("send(0, -1, -1)", 1).error("bring(3, 0, 0)", Run.LIMIT).due("send(29, -1, -1)", 2);
        run.error("bring(3, 7, 1)", Run.LIMIT).due("lift(1)", 1).error("bring(3, 0, 1)", Run.LIMIT);
        run.due("count(5)", 30).due("count(6)", 2).due("count(2)", 1);
    }

    private static void bringErrorsInOrder() {
        Run run = new Run("promise 2: an argument out of range and the shelf not empty");
        run.due("bring(3, 7, 3)", 0).error("bring(0, 7, 3)", Run.INVALID).error("bring(21, 7, 3)", Run.INVALID);
        Run full = thirty("promise 2: 30 cartridges and other errors");
        full.error("bring(3, 0, 0)", Run.NOT_POSSIBLE).error("bring(3, 7, 1)", Run.NOT_POSSIBLE);
        full.error("bring(0, 7, 2)", Run.INVALID).error("bring(3, 8, 2)", Run.INVALID);
        full.error("bring(3, 7, 4)", Run.INVALID);
        full.error("bring(21, 0, 0)", Run.INVALID).error("bring(3, -1, 0)", Run.INVALID);
        full.error("bring(3, 0, -1)", Run.INVALID);
    }

    private static void sendCartridge() {
        Run none = new Run("promise 3: if there is no cartridge with a certain number, this is INVALID_ARGUMENT");
        none.error("send(0, -1, -1)", Run.INVALID).error("send(0, 0, 0)", Run.INVALID);
        Run run = thirty("promise 3: number of the cartridge");
        run.range("send(#, -1, -1)", 0, 29).range("send(#, 7, 3)", 0, 29);
        run.due("send(0, -1, -1)", 1).due("send(29, -1, -1)", 2).due("send(29, 7, 3)", 1).due("send(0, 7, 2)", 0);
        Run few = new Run("promise 3: the next number is none yet");
        few.due("bring(3, 0, 0)", 0).due("bring(3, 0, 1)", 1).range("send(#, -1, -1)", 0, 1).due("undo()", 1);
        few.error("send(1, -1, -1)", Run.INVALID).due("send(0, -1, -1)", 1);
    }

    private static Run away(String name) {
        Run run = new Run(name);
        return run.due("bring(5, 2, 0)", 0).due("bring(6, 6, 0)", 1).due("send(0, -1, -1)", 1);
    }

    private static void sendWall() {
        Run run = away("promise 3: wall: 0 to 7, or -1").range("send(0, #, 0)", 0, 7).range("send(0, #, -1)", -1, -1);
        for (int wall = 0; wall <= 7; wall++) {
            run.due("send(0, " + wall + ", 2)", 0).due("shelfOf(" + wall + ", 2)", 0).due("send(0, -1, -1)", 1);
            run.due("shelfOf(" + wall + ", 2)", Run.NOT_FOUND);
        }
    }

    private static void sendShelf() {
        Run run = away("promise 3: shelf: 0 to 3, or -1 if wall is -1").range("send(0, 1, #)", 0, 3);
        run.range("send(1, -1, #)", -1, -1).range("send(0, 7, #)", 0, 3).range("send(0, 0, #)", 0, 3);
        for (int shelf = 0; shelf <= 3; shelf++) {
            run.due("send(0, 1, " + shelf + ")", 0).due("shelfOf(1, " + shelf + ")", 0).due("send(0, -1, -1)", 1);
        }
    }

    private static void sendJustOneIsMinusOne() {
        Run run = away("promise 3: INVALID_ARGUMENT if just one of wall and shelf is -1");
        for (int cartridge = 0; cartridge <= 1; cartridge++) {
            run.error("send(" + cartridge + ", -1, 0)", Run.INVALID);
            run.error("send(" + cartridge + ", -1, 3)", Run.INVALID);
            run.error("send(" + cartridge + ", 0, -1)", Run.INVALID);
            run.error("send(" + cartridge + ", 7, -1)", Run.INVALID);
        }
        run.due("send(1, -1, -1)", 2);
    }

    private static void sendGotOnlyFromAShelf() {
        Run run = away("promise 3: NOT_POSSIBLE if it is to be got and is not on a shelf");
        run.error("send(0, -1, -1)", Run.NOT_POSSIBLE);
        run.due("weigh()", 0).due("turn(-2)", 6).due("lift(0)", 1).error("send(1, -1, -1)", Run.NOT_POSSIBLE);
        run.due("mount(1)", 0).error("send(1, -1, -1)", Run.NOT_POSSIBLE).due("take(1)", 1);
        run.error("send(1, -1, -1)", Run.NOT_POSSIBLE).due("lay(3)", 1).due("send(1, -1, -1)", 2);
    }

    private static void sendBackOnlyFromANeighbor() {
        Run run = away("promise 3: NOT_POSSIBLE if it is to be sent and is not with a neighbor");
        run.error("send(1, 6, 1)", Run.NOT_POSSIBLE).error("send(1, 6, 0)", Run.NOT_POSSIBLE);
        run.due("weigh()", 0).due("turn(-2)", 6).due("lift(0)", 1).error("send(1, 6, 0)", Run.NOT_POSSIBLE);
        run.due("mount(1)", 0).error("send(1, 6, 0)", Run.NOT_POSSIBLE).due("send(0, 6, 0)", 0);
        run.error("send(0, 6, 1)", Run.NOT_POSSIBLE);
    }

    private static void sendShelfNotEmpty() {
        Run run = away("promise 3: NOT_POSSIBLE if the shelf is not empty");
        run.error("send(0, 6, 0)", Run.NOT_POSSIBLE).due("bring(7, 2, 0)", 2).error("send(0, 2, 0)", Run.NOT_POSSIBLE);
        run.due("send(2, -1, -1)", 2).due("send(0, 2, 0)", 1).error("send(2, 2, 0)", Run.NOT_POSSIBLE);
        run.due("send(2, 2, 1)", 0);
    }

    private static void sendHowManyWithNeighbors() {
        Run run = thirty("promise 3: returns how many cartridges are with neighbors then");
        for (int cartridge = 0; cartridge < 30; cartridge++) {
            run.due("send(" + cartridge + ", -1, -1)", cartridge + 1);
        }
        run.due("count(6)", 30).due("count(5)", 30).due("shelfOf(0, 0)", Run.NOT_FOUND);
        for (int cartridge = 29; cartridge >= 0; cartridge--) {
            run.due("send(" + cartridge + ", " + cartridge / 4 + ", " + cartridge % 4 + ")", cartridge);
        }
        run.due("count(6)", 0).due("shelfOf(7, 1)", 29).due("count(14)", 4).due("count(0)", 0);
    }

    private static void sendWithItsFiles() {
        Run run = new Run("promise 3: it can get a cartridge from a shelf, with its files");
        run.due("bring(5, 2, 0)", 0).due("hold(0, 0)", -1).due("hold(0, 59)", -1).due("request(59, 4)", 1);
        run.due("weigh()", 0).due("send(0, -1, -1)", 1).due("holder(0)", 0).due("holder(59)", 0).due("count(13)", 2);
        run.told("cartridgeOf(0, ", 5, 0, 3, Run.NOT_FOUND, 2, 1, 0).due("count(8)", 1).due("count(4)", 1);
        run.due("count(0)", 1);
        run.error("nextBy(0)", Run.NOT_FOUND).due("send(0, 2, 1)", 0).due("nextBy(0)", 0);
        run.told("cartridgeOf(0, ", 5, 0, 0, 21, 2, 1, 0).due("count(4)", 1).due("count(0)", 1);
    }

    private static void sendErrorsInOrder() {
        Run run = away("promise 3: INVALID_ARGUMENT rather than NOT_POSSIBLE");
        run.error("send(2, 6, 0)", Run.INVALID).error("send(0, 6, 4)", Run.INVALID).error("send(0, 8, 0)", Run.INVALID);
        run.error("send(1, 8, 0)", Run.INVALID).error("send(1, 0, 4)", Run.INVALID);
        run.error("send(-1, 6, 0)", Run.INVALID);
        run.error("send(0, -2, -1)", Run.INVALID).error("send(0, -1, -2)", Run.INVALID);
        run.error("send(0, -2, -2)", Run.INVALID);
        run.error("send(0, -1, 3)", Run.INVALID).error("send(1, 6, -1)", Run.INVALID);
    }
}
