/** Promises 23 to 26. */
public final class TextsTest {
    public static void main(String[] args) {
        promise23Type();
        promise24ClearText();
        promise25Position();
        promise25Cause();
        promise25Range();
        promise25NotPossible();
        promise25FaultErrors();
        promise26Play();
        promise26PlayErrors();
        promise26PlayAllOrders();
        Run.end();
    }

    private static void promise23Type() {
        Run run = new Run("promise 23: type");
        run.error("type(31)", Run.INVALID).error("type(127)", Run.INVALID).error("type(-1)", Run.INVALID);
        run.error("type(-2147483648)", Run.INVALID).error("type(65568)", Run.INVALID);
        run.due("type(32)", 1).due("type(126)", 2).due("count(15)", 2).due("count(14)", 0);
        for (int length = 3; length <= 60; length++) {
            run.due("type(59)", length);
        }
        run.error("type(59)", Run.LIMIT).error("type(31)", Run.INVALID).error("type(127)", Run.INVALID);
        run.due("count(15)", 60).due("clearText()", 60).due("type(33)", 1);
    }

    private static void promise24ClearText() {
        Run run = new Run("promise 24: clearText");
        run.due("clearText()", 0).typed("weigh;").due("clearText()", 6).due("clearText()", 0).due("count(15)", 0);
        run.due("count(14)", 0).due("fault(0)", Run.NOT_FOUND).typed("x").due("fault(0)", 0).due("clearText()", 1);
        run.due("fault(0)", Run.NOT_FOUND).due("fault(1)", Run.NOT_FOUND).due("play()", 0).due("count(0)", 0);
    }

    private static void promise25Position() {
        Run run = new Run("promise 25: fault, position");
        run.noFault("").noFault("weigh;").noFault("weigh;weigh;").noFault("weigh;right 4;weigh;left 4;");
        run.fault("x", 0, 1, 0).fault("weigh;x", 6, 1, 0).fault("weigh;weigh;right 9;", 12, 2, Run.NOT_FOUND);
        run.fault("weigh;lift 0;lift 4;x", 6, 3, Run.NOT_FOUND).fault("weigh;lift 4;lift 0;", 6, 2, Run.NOT_FOUND);
        run.fault("weigh;right 1;right 1;", 14, 3, Run.NOT_FOUND);
        run.fault("weigh;weigh;weigh;weigh;weigh;weigh;weigh;weigh;weigh;weig;;", 54, 1, 0);
        run.noFault("weigh;weigh;weigh;weigh;weigh;weigh;weigh;weigh;weigh;weigh;");
    }

    private static void promise25Cause() {
        Run run = new Run("promise 25: fault, cause");
        run.fault(";", 0, 1, 0).fault(" ", 0, 1, 0).fault(" weigh;", 0, 1, 0).fault("3", 0, 1, 0);
        run.fault("lif", 0, 1, 0).fault("lif;", 0, 1, 0).fault("lifts 0;", 0, 1, 0).fault("Lift 0;", 0, 1, 0);
        run.fault("lift", 0, 1, 4).fault("lift ", 0, 1, 5).fault("lift 0", 0, 1, 6).fault("lift;", 0, 1, 4);
        run.fault("lift0;", 0, 1, 4).fault("lift  0;", 0, 1, 5).fault("lift x;", 0, 1, 5).fault("lift ;", 0, 1, 5);
        run.fault("lift 00;", 0, 1, 6).fault("lift 0 ;", 0, 1, 6).fault("lift 9", 0, 1, 6).fault("lift 9.", 0, 1, 6);
        run.fault("lift -1;", 0, 1, 5).fault("lift /;", 0, 1, 5).fault("lift :;", 0, 1, 5);
        run.fault("weigh", 0, 1, 5).fault("weigh ", 0, 1, 5).fault("weigh 0;", 0, 1, 5).fault("weigh0;", 0, 1, 5);
        run.fault("weig", 0, 1, 0).fault("weighh;", 0, 1, 0).fault("weigh:", 0, 1, 5).fault("weigh`", 0, 1, 5);
        run.fault("weigh{", 0, 1, 5).fault("weighz", 0, 1, 0).fault("weigha", 0, 1, 0).fault("weighZ", 0, 1, 5);
        run.fault("lay", 0, 1, 3).fault("lay 0", 0, 1, 5).fault("layy 0;", 0, 1, 0).fault("la 0;", 0, 1, 0);
        run.fault("right", 0, 1, 5).fault("right 1", 0, 1, 7).fault("left", 0, 1, 4).fault("left 12;", 0, 1, 6);
        run.fault("mount", 0, 1, 5).fault("mount 0", 0, 1, 7).fault("take", 0, 1, 4).fault("take 0", 0, 1, 6);
        run.fault("serve", 0, 1, 5).fault("serve 0", 0, 1, 7).fault("serve_0;", 0, 1, 5).fault("server 0;", 0, 1, 0);
        run.fault("weigh;lift 0", 6, 1, 6).fault("weigh;weigh", 6, 1, 5).fault("weigh; weigh;", 6, 1, 0);
        run.fault("weigh;;", 6, 1, 0).fault("weigh;lift;", 6, 1, 4).fault("turn 1;", 0, 1, 0).fault("wei gh;", 0, 1, 0);
        run.fault("gift 0;", 0, 1, 0).fault("night 1;", 0, 1, 0).fault("bake 0;", 0, 1, 0).fault("lit 0;", 0, 1, 0);
        run.fault("weightake 0;", 0, 1, 0).fault("takelift 0;", 0, 1, 0);
    }

    private static void promise25Range() {
        Run run = new Run("promise 25: fault, numbers out of range");
        for (String bad : new String[] {"lift 4;", "lift 9;", "lay 4;", "lay 9;", "right 0;", "right 5;", "right 9;",
            "left 0;", "left 5;", "left 9;", "mount 2;", "mount 9;", "take 2;", "take 9;", "serve 4;", "serve 9;"}) {
            run.fault(bad, 0, 2, Run.NOT_FOUND).fault("weigh;" + bad + "x", 6, 2, Run.NOT_FOUND);
            run.again(bad).typed(bad).error("play()", Run.NOT_POSSIBLE);
        }
        for (String good : new String[] {"lift 0;", "lift 3;", "lay 0;", "lay 3;", "right 1;", "right 4;", "left 1;",
            "left 4;", "mount 0;", "mount 1;", "take 0;", "take 1;", "serve 0;", "serve 1;", "serve 2;", "serve 3;"}) {
            run.fault(good, 0, 3, Run.NOT_FOUND);
            run.again(good).typed(good).error("play()", Run.NOT_POSSIBLE);
        }
    }

    private static void promise25NotPossible() {
        Run run = new Run("promise 25: fault, not possible");
        for (int shelf = 0; shelf < 4; shelf++) {
            run.due("bring(3, 0, " + shelf + ")", shelf);
        }
        run.noFault("lift 0;lift 1;lift 2;").fault("lift 0;lift 1;lift 2;lift 3;", 21, 3, Run.NOT_FOUND);
        run.fault("lift 0;lift 0;", 7, 3, Run.NOT_FOUND).fault("lift 0;lay 1;", 7, 3, Run.NOT_FOUND);
        run.noFault("lift 0;lift 1;lay 0;lay 1;").fault("lift 0;lay 0;lay 0;", 13, 3, Run.NOT_FOUND);
        run.fault("lift 0;right 1;", 7, 3, Run.NOT_FOUND).noFault("lift 0;weigh;right 1;");
        run.noFault("lift 0;weigh;right 2;mount 0;take 0;lay 3;");
        run.fault("lift 0;weigh;right 2;mount 1;", 21, 3, Run.NOT_FOUND);
        run.fault("lift 0;weigh;left 2;mount 0;", 20, 3, Run.NOT_FOUND).noFault("lift 0;weigh;left 2;mount 1;");
        run.due("hold(1, 9)", -1).due("request(9, 0)", 1);
        run.noFault("serve 0;").fault("serve 0;serve 0;", 8, 3, Run.NOT_FOUND).noFault("serve 1;take 0;lay 0;");
        run.fault("lift 0;serve 1;", 7, 3, Run.NOT_FOUND).noFault("lift 1;lay 1;serve 3;");
        run.due("count(0)", 0).due("count(8)", 1).due("count(14)", 4);
    }

    private static void promise25FaultErrors() {
        Run run = new Run("promise 25: fault, errors");
        run.error("fault(-1)", Run.INVALID).error("fault(3)", Run.INVALID).error("fault(2147483647)", Run.INVALID);
        run.error("fault(0)", Run.NOT_FOUND).error("fault(1)", Run.NOT_FOUND).error("fault(2)", Run.NOT_FOUND);
        run.typed("x").error("fault(3)", Run.INVALID).error("fault(-2147483648)", Run.INVALID);
        // The fault goes with the state: what is possible changes.
        run.due("clearText()", 1).typed("lift 0;").due("fault(1)", 3).due("bring(1, 0, 0)", 0);
        run.due("fault(1)", Run.NOT_FOUND).due("undo()", 0).due("fault(0)", 0);
    }

    private static void promise26Play() {
        Run run = new Run("promise 26: play");
        run.due("play()", 0).due("count(14)", 1).due("count(0)", 0).due("undo()", 0);
        run.due("bring(9, 0, 3)", 0).due("hold(0, 7)", -1).due("request(7, 7)", 1).due("weigh()", 0);
        run.typed("lift 3;weigh;left 2;mount 1;");
        // lift 1, weigh 1, turn 2, mount 3
        run.due("play()", 4).due("count(0)", 8).due("count(1)", 6).due("count(12)", 0).due("count(9)", 1);
        run.due("count(15)", 28).due("count(14)", 4).due("count(8)", 0).due("fault(1)", 3).due("undo()", 3);
        run.due("count(0)", 1).due("count(8)", 1).due("cartridgeOf(0, 3)", 3).due("count(4)", 1).due("count(15)", 28);
        run.due("fault(1)", Run.NOT_FOUND).due("play()", 4).due("count(12)", 0);
    }

    private static void promise26PlayErrors() {
        Run run = new Run("promise 26: play, with a fault");
        run.due("bring(9, 0, 3)", 0).typed("lift 3;weigh;right 3;mount 0;");
        run.error("play()", Run.NOT_POSSIBLE).due("clearText()", 29).typed("weigh;weigh");
        run.error("play()", Run.NOT_POSSIBLE).typed(";").due("play()", 2).due("count(0)", 2).due("play()", 2);
        run.due("count(0)", 4).due("count(14)", 3).due("undo()", 2).due("count(0)", 2);
        run.typed("serve 4;").error("play()", Run.NOT_POSSIBLE);
    }

    private static void promise26PlayAllOrders() {
        Run run = new Run("promise 26: play, all kinds of orders");
        run.due("bring(12, 3, 2)", 0).due("bring(3, 1, 0)", 1).due("hold(1, 7)", -1).due("request(7, 2)", 1);
        run.typed("weigh;right 3;lift 2;weigh;left 1;mount 0;");
        // weigh 1, 3 walls 3, lift 1, weigh 1, 1 wall 2, mount 3
        run.due("play()", 6).due("count(0)", 11).due("count(10)", 2).due("count(1)", 2).due("count(11)", 0);
        run.due("clearText()", 42).typed("take 0;lay 1;serve 2;weigh;left 4;");
        // take 2, lay 1; weigh 1, 1 wall 1, lift 1, weigh 1, 1 wall 1, mount 3; weigh 1, 4 walls 4
        run.due("play()", 5).due("count(0)", 11 + 16).due("count(1)", 6).due("count(11)", 1).due("count(9)", 1);
        run.due("cartridgeOf(0, 3)", 21).due("cartridgeOf(1, 6)", 1).due("count(14)", 4).due("undo()", 3);
        run.due("count(0)", 11).due("count(11)", 0).due("count(8)", 1);
    }
}
