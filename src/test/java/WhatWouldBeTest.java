/** Promises 17 to 20. */
public final class WhatWouldBeTest {
    public static void main(String[] args) {
        promise17NextByOrderAndRank();
        promise17NextByWay();
        promise17NextByBatch();
        promise17NextByPlace();
        promise18Would();
        promise18WouldWithFullDrives();
        promise19WayTo();
        promise19WayToByWeight();
        promise20WholeBatch();
        promise20WholeBatchStops();
        Run.end();
    }

    private static void promise17NextByOrderAndRank() {
        Run run = new Run("promise 17: nextBy, rules 0 and 1");
        run.error("nextBy(-1)", Run.INVALID).error("nextBy(4)", Run.INVALID).error("nextBy(2147483647)", Run.INVALID);
        run.error("nextBy(0)", Run.NOT_FOUND).error("nextBy(3)", Run.NOT_FOUND);
        run.due("bring(1, 4, 0)", 0).due("bring(1, 1, 0)", 1).due("hold(0, 0)", -1).due("hold(1, 1)", -1);
        run.due("request(50, 9)", 1).error("nextBy(0)", Run.NOT_FOUND).error("nextBy(1)", Run.NOT_FOUND);
        run.due("request(0, 0)", 2).due("nextBy(0)", 1).due("nextBy(1)", 1).due("nextBy(2)", 1).due("nextBy(3)", 1);
        run.due("request(1, 5)", 3).due("request(0, 5)", 4).due("request(1, 4)", 5);
        run.due("nextBy(0)", 1).due("nextBy(1)", 2).due("request(0, 6)", 6).due("nextBy(1)", 5).due("nextBy(0)", 1);
        run.due("lift(0)", Run.NOT_POSSIBLE).due("weigh()", 0).due("turn(1)", 1).due("lift(0)", 1);
        // Not on a shelf; that the pallet is not empty does not matter here.
        run.due("nextBy(0)", 1).due("nextBy(1)", 5).due("undo()", 3);
    }

    private static void promise17NextByWay() {
        Run run = new Run("promise 17: nextBy, rule 2");
        for (int wall = 0; wall < 8; wall++) {
            run.due("bring(1, " + wall + ", 0)", wall).due("hold(" + wall + ", " + wall + ")", -1);
        }
        run.due("request(4, 9)", 1).due("nextBy(2)", 0).due("request(5, 8)", 2).due("nextBy(2)", 1);
        run.due("request(3, 8)", 3).due("nextBy(2)", 1).due("request(2, 0)", 4).due("nextBy(2)", 3);
        run.due("request(6, 0)", 5).due("nextBy(2)", 3).due("request(7, 1)", 6).due("nextBy(2)", 5);
        run.due("request(1, 1)", 7).due("nextBy(2)", 5).due("request(0, 0)", 8).due("nextBy(2)", 7);
        run.due("request(0, 9)", 9).due("nextBy(2)", 7).due("nextBy(1)", 0).due("nextBy(0)", 0);
        run.due("weigh()", 0).due("turn(4)", 4).due("nextBy(2)", 0).due("weigh()", 0).due("turn(-1)", 3);
        run.due("nextBy(2)", 2).due("weigh()", 0).due("turn(-2)", 1).due("nextBy(2)", 6);
        Run far = new Run("promise 17: nextBy, rule 2, by each way");
        for (int wall = 0; wall < 8; wall++) {
            far.due("bring(1, " + wall + ", 0)", wall).due("hold(" + wall + ", " + wall + ")", -1);
        }
        far.due("request(4, 0)", 1).due("request(3, 0)", 2).due("nextBy(2)", 1).due("request(6, 0)", 3);
        far.due("nextBy(2)", 2).due("request(2, 0)", 4).due("nextBy(2)", 2).due("undo()", 3).due("undo()", 2);
        far.due("undo()", 1).due("request(5, 0)", 2).due("nextBy(2)", 1).due("request(2, 0)", 3).due("nextBy(2)", 2);
        Run tie = new Run("promise 17: nextBy, rule 2, as near");
        tie.due("bring(1, 1, 0)", 0).due("bring(1, 7, 0)", 1).due("hold(0, 0)", -1).due("hold(1, 1)", -1);
        tie.due("request(1, 0)", 1).due("request(0, 0)", 2).due("nextBy(2)", 0).due("undo()", 3).due("undo()", 2);
        tie.due("request(0, 0)", 1).due("request(1, 0)", 2).due("nextBy(2)", 0);
    }

    private static void promise17NextByBatch() {
        Run run = new Run("promise 17: nextBy, rule 3");
        run.due("bring(1, 0, 0)", 0).due("bring(1, 1, 0)", 1).due("hold(0, 0)", -1);
        run.due("hold(1, 1)", -1).due("hold(1, 2)", -1).due("hold(1, 3)", -1);
        run.due("request(0, 0)", 1).due("request(1, 0)", 2).due("nextBy(3)", 0).due("request(2, 0)", 3);
        run.due("nextBy(3)", 1).due("request(0, 9)", 4).due("nextBy(3)", 0).due("request(3, 0)", 5).due("nextBy(3)", 1);
        run.due("nextBy(0)", 0).due("nextBy(1)", 3).due("hold(0, 3)", 1).due("nextBy(3)", 0);
    }

    private static void promise17NextByPlace() {
        Run run = new Run("promise 17: nextBy, cartridges elsewhere");
        run.due("bring(1, 2, 0)", 0).due("bring(1, 2, 1)", 1).due("hold(0, 0)", -1).due("hold(1, 1)", -1);
        run.due("request(0, 9)", 1).due("request(1, 0)", 2).due("nextBy(1)", 0);
        run.due("send(0, -1, -1)", 1).due("nextBy(0)", 1).due("nextBy(1)", 1).due("nextBy(2)", 1).due("nextBy(3)", 1);
        run.due("send(0, 2, 3)", 0).due("nextBy(0)", 0).due("weigh()", 0).due("turn(2)", 2).due("lift(3)", 0);
        run.due("nextBy(0)", 1).due("mount(0)", 1).due("request(0, 9)", 2).due("nextBy(1)", 0).due("nextBy(3)", 0);
        run.due("requestOf(0, 0)", 1).due("send(1, -1, -1)", 1).due("nextBy(0)", Run.NOT_FOUND);
    }

    private static void promise18Would() {
        Run run = new Run("promise 18: would");
        run.error("would(0, 0)", Run.NOT_POSSIBLE).error("would(-1, 0)", Run.INVALID).error("would(4, 0)", Run.INVALID);
        run.error("would(0, -1)", Run.INVALID).error("would(0, 5)", Run.INVALID).error("would(4, 5)", Run.INVALID);
        run.due("bring(12, 4, 1)", 0).due("bring(3, 7, 0)", 1).due("hold(0, 5)", -1).due("hold(0, 6)", -1);
        run.due("hold(1, 7)", -1).due("request(7, 0)", 1).due("request(5, 9)", 2).due("request(6, 0)", 3);
        // weigh 1, one wall 1, lift 1, weigh 1, one wall 1, mount 3
        asked(run, 0, 8, 2, 1, 1, 1);
        // weigh 1, four walls 4, lift 1, weigh 1, two walls 4, mount 3
        asked(run, 1, 14, 2, 2, 0, 0);
        asked(run, 2, 8, 2, 1, 1, 1);
        asked(run, 3, 14, 2, 2, 0, 0);
        run.error("would(0, 5)", Run.INVALID).error("would(-2147483648, 0)", Run.INVALID);
        run.due("count(0)", 0).due("count(8)", 3).due("count(14)", 4).due("count(1)", 0);
        run.due("serve(1)", 2).due("count(0)", 14).due("would(1, 4)", 1).due("would(1, 3)", 1);
        run.due("lift(0)", Run.NOT_POSSIBLE).due("bring(1, 2, 0)", 2).due("lift(0)", 2);
        run.error("would(0, 0)", Run.NOT_POSSIBLE).error("would(0, 5)", Run.INVALID);
    }

    private static void asked(Run run, int rule, int... told) {
        for (int what = 0; what < told.length; what++) {
            run.error("would(" + rule + ", " + what + ")", told[what]);
        }
    }

    private static void promise18WouldWithFullDrives() {
        Run run = new Run("promise 18: would, full drives");
        run.due("bring(3, 2, 0)", 0).due("bring(3, 6, 0)", 1).due("bring(3, 6, 1)", 2);
        run.due("hold(0, 0)", -1).due("hold(1, 1)", -1).due("hold(2, 2)", -1);
        run.due("request(0, 0)", 1).due("serve(0)", 1).due("request(1, 0)", 1).due("serve(0)", 1);
        run.due("request(2, 0)", 1).due("request(2, 0)", 2).due("count(1)", 6);
        // weigh 1, 4 walls 4, take 2, lay 1; weigh 1, 4 walls 4, lift 1, weigh 1, 4 walls 4, mount 3
        asked(run, 0, 22, 3, 2, 0, 2);
    }

    private static void promise19WayTo() {
        Run run = new Run("promise 19: wayTo");
        run.error("wayTo(-1)", Run.INVALID).error("wayTo(8)", Run.INVALID).error("wayTo(-2147483648)", Run.INVALID);
        ways(run, 0, 2, 3, 4, 5, 4, 3, 2);
        run.due("weigh()", 0);
        ways(run, 0, 2, 3, 4, 5, 4, 3, 2);
        run.due("turn(-3)", 5);
        ways(run, 4, 5, 4, 3, 2, 0, 2, 3);
        run.due("count(0)", 4).due("count(1)", 5).due("count(14)", 2).due("count(10)", 1);
    }

    private static void promise19WayToByWeight() {
        Run run = new Run("promise 19: wayTo, by weight");
        run.due("bring(10, 0, 0)", 0).due("bring(1, 0, 1)", 1).due("bring(9, 0, 2)", 2).due("bring(20, 0, 3)", 3);
        run.due("lift(0)", 0);
        ways(run, 0, 3, 5, 7, 9, 7, 5, 3);
        run.due("lift(1)", 1);
        ways(run, 0, 3, 5, 8, 10, 8, 5, 3);
        run.due("lift(2)", 2);
        ways(run, 0, 4, 7, 11, 14, 11, 7, 4);
        run.due("lay(2)", 2).due("lift(3)", 3).due("count(3)", 31);
        ways(run, 0, 5, 10, 15, 20, 15, 10, 5);
    }

    private static void ways(Run run, int... ticks) {
        for (int wall = 0; wall < ticks.length; wall++) {
            run.error("wayTo(" + wall + ")", ticks[wall]);
        }
    }

    private static void promise20WholeBatch() {
        Run run = new Run("promise 20: wholeBatch");
        run.error("wholeBatch(-1, 0)", Run.INVALID).error("wholeBatch(4, 0)", Run.INVALID);
        run.error("wholeBatch(0, -1)", Run.INVALID).error("wholeBatch(0, 3)", Run.INVALID);
        run.error("wholeBatch(2147483647, 0)", Run.INVALID);
        whole(run, 0, 0, 0, 0);
        run.due("bring(3, 2, 0)", 0).due("bring(3, 6, 0)", 1).due("bring(3, 6, 1)", 2);
        run.due("hold(0, 0)", -1).due("hold(1, 1)", -1).due("hold(2, 2)", -1).due("request(0, 0)", 1);
        // weigh 1, 2 walls 2, lift 1, mount 3
        whole(run, 0, 7, 1, 0);
        run.due("request(1, 0)", 2);
        // weigh 1, 4 walls 4, lift 1, mount 3 more
        whole(run, 0, 16, 2, 0);
        run.due("request(2, 9)", 3);
        // weigh 1, 4 walls 4, take 2, lay 1, weigh 1, 4 walls 4, lift 1, weigh 1, 4 walls 4, mount 3 more
        whole(run, 0, 38, 3, 0);
        // The cartridge 2 first: weigh 1, 2 walls 2, lift 1, mount 3; the cartridge 0 next: weigh 1, 4 walls 4,
        // lift 1, mount 3; the cartridge 1: weigh 1, 4 walls 4, take 2, lay 1 (onto the lowest empty shelf 61),
        // lift 1, mount 3
        whole(run, 1, 7 + 9 + 12, 3, 0);
        run.due("count(0)", 0).due("count(8)", 3).due("count(9)", 0).due("count(14)", 4);
        run.due("request(1, 0)", 4).due("request(0, 0)", 5);
        whole(run, 0, 38, 3, 0);
    }

    private static void whole(Run run, int rule, int... told) {
        for (int what = 0; what < told.length; what++) {
            run.error("wholeBatch(" + rule + ", " + what + ")", told[what]);
        }
    }

    private static void promise20WholeBatchStops() {
        Run run = new Run("promise 20: wholeBatch, what waits behind it");
        run.due("bring(3, 2, 0)", 0).due("bring(3, 6, 0)", 1).due("hold(0, 0)", -1).due("hold(1, 1)", -1);
        run.due("request(50, 0)", 1).due("request(0, 0)", 2).due("request(1, 0)", 3).due("request(0, 1)", 4);
        whole(run, 0, 16, 2, 1);
        run.due("lift(0)", Run.NOT_POSSIBLE).due("send(0, -1, -1)", 1);
        whole(run, 0, 7, 1, 3);
        run.due("bring(1, 0, 0)", 2).due("lift(0)", 2);
        whole(run, 0, 0, 0, 4);
        whole(run, 3, 0, 0, 4);
        Run many = new Run("promise 20: wholeBatch, twelve servings");
        for (int cartridge = 0; cartridge < 12; cartridge++) {
            many.due("bring(1, " + cartridge % 8 + ", " + cartridge / 8 + ")", cartridge);
            many.due("hold(" + cartridge + ", " + cartridge + ")", -1);
            many.due("request(" + cartridge + ", 0)", cartridge + 1);
        }
        for (int rule = 0; rule <= 3; rule++) {
            many.due("wholeBatch(" + rule + ", 1)", 12).due("wholeBatch(" + rule + ", 2)", 0);
        }
    }
}
