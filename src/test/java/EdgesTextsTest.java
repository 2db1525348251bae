/** The edges of the promises 23 to 26, and of the form of orders: a test for each sentence that names one. */
public final class EdgesTextsTest {
    private static final int NONE = Run.NOT_FOUND;
    private static final String TEN_WEIGHINGS = "weigh;weigh;weigh;weigh;weigh;weigh;weigh;weigh;weigh;weigh;";

    public static void main(String[] args) {
        typeCharacter();
        typeSixty();
        typeAppends();
        typeErrorsInOrder();
        clearLength();
        clearEmpty();
        clearFull();
        faultWhat();
        faultNone();
        faultNoneInAnEmptyText();
        faultFollowedBySemicolon();
        faultOneBlank();
        faultOneDigit();
        faultFormOfEachOrder();
        faultShelfAbove3();
        faultWallsNot1To4();
        faultDriveAbove1();
        faultRuleAbove3();
        faultFormAheadOfRange();
        faultRangeAheadOfTheState();
        faultNotPossibleOtherwise();
        faultNotPossibleForEachOrder();
        faultWhenThoseAheadAreDone();
        faultOfTheFirstOrder();
        faultPosition();
        faultCauseNoneOfTheWords();
        faultCauseAtTheEndOfTheText();
        faultCauseBeginningWithAWord();
        faultCauseLettersAToZ();
        faultCauseBreaksOff();
        faultCauseEndsTooEarly();
        faultNothingOfAnEarlierText();
        faultCauseWithinItsOrder();
        faultCauseOnlyWithReason1();
        faultAtTheEndOfAFullText();
        faultChangesNothing();
        faultErrorsInOrder();
        playNoOrders();
        playTenOrders();
        playOneChange();
        playTextStays();
        playHasAFault();
        playEachReason();
        playStopsAtNothing();
        playAsTheCalls();
        Run.end();
    }

    private static void typeCharacter() {
        Run run = new Run("promise 23: character: 32 to 126").range("type(#)", 32, 126);
        run.due("type(32)", 1).due("type(126)", 2).due("type(33)", 3).due("type(125)", 4).range("type(#)", 32, 126);
        run.error("type(0)", Run.INVALID).error("type(10)", Run.INVALID).error("type(160)", Run.INVALID);
    }

    private static void typeSixty() {
        Run run = new Run("promise 23: LIMIT_REACHED if it has 60 characters").typed(TEN_WEIGHINGS.substring(0, 58));
        run.due("type(104)", 59).due("type(59)", 60).error("type(59)", Run.LIMIT).error("type(32)", Run.LIMIT);
        run.error("type(126)", Run.LIMIT).due("count(15)", 60).due("play()", 10).due("clearText()", 60);
        run.due("type(32)", 1);
    }

    private static void typeAppends() {
        Run run = new Run("promise 23: appends a character, returns the length of the text");
        for (int length = 1; length <= 12; length++) {
            run.due("type(" + (int) "weigh;weigh;".charAt(length - 1) + ")", length);
        }
        run.due("fault(0)", NONE).due("play()", 2).due("count(0)", 2).due("count(14)", 1);
    }

    private static void typeErrorsInOrder() {
        Run run = new Run("promise 23: INVALID_ARGUMENT rather than LIMIT_REACHED").typed(TEN_WEIGHINGS);
        run.error("type(31)", Run.INVALID).error("type(127)", Run.INVALID).error("type(-1)", Run.INVALID);
    }

    private static void clearLength() {
        Run run = new Run("promise 24: returns the length it had").typed("weigh;").due("clearText()", 6);
        run.due("count(15)", 0);
        run.typed("x").due("clearText()", 1).typed("weigh;").due("count(15)", 6).due("fault(0)", NONE).due("play()", 1);
    }

    private static void clearEmpty() {
        new Run("promise 24: an empty text").error("clearText()", 0).due("clearText()", 0).due("count(15)", 0);
    }

    private static void clearFull() {
        Run run = new Run("promise 24: a full text").typed(TEN_WEIGHINGS).due("clearText()", 60).due("clearText()", 0);
        run.due("fault(0)", NONE).due("play()", 0).due("count(0)", 0);
    }

    private static void faultWhat() {
        Run run = new Run("promise 25: what: 0: its position; 1: its reason; 2: its cause").range("fault(#)", 0, 2);
        run.typed("weigh;lift").range("fault(#)", 0, 2).told("fault(", 6, 1, 4, Run.INVALID);
    }

    private static void faultNone() {
        Run run = new Run("promise 25: NOT_FOUND if the text has no fault").typed("weigh;right 4;weigh;left 4;");
        run.error("fault(0)", NONE).error("fault(1)", NONE).error("fault(2)", NONE);
    }

    private static void faultNoneInAnEmptyText() {
        Run run = new Run("promise 25: NOT_FOUND, also if it is empty").error("fault(0)", NONE).error("fault(1)", NONE);
        run.error("fault(2)", NONE).typed("x").due("fault(0)", 0).due("clearText()", 1);
        run.told("fault(", NONE, NONE, NONE);
    }

    /** All orders are possible on it, one by one: a cartridge on the pallet, one in the drive 0, at its wall, weighed. */
    private static Run ready(String name) {
        Run run = new Run(name).due("bring(3, 2, 0)", 0).due("bring(3, 2, 1)", 1).due("bring(3, 2, 2)", 2);
        run.due("hold(2, 9)", -1);
        return run.due("weigh()", 0).due("turn(2)", 2).due("lift(0)", 0).due("mount(0)", 0).due("lift(1)", 1).due("weigh()", 3);
    }

    private static void faultFollowedBySemicolon() {
        Run run = ready("orders, each followed by \";\"").noFault("weigh;").noFault("lift 2;").noFault("lay 0;");
        run.fault("weigh", 0, 1, 5).fault("lift 2", 0, 1, 6).fault("lay 0", 0, 1, 5).fault("weigh;weigh", 6, 1, 5);
        run.fault("weigh:", 0, 1, 5).fault("lift 2:", 0, 1, 6).fault("lay 0,", 0, 1, 5).fault("weigh,weigh;", 0, 1, 5);
        run.fault("weigh;;", 6, 1, 0).fault(";", 0, 1, 0).fault(";weigh;", 0, 1, 0).fault("weigh;;weigh;", 6, 1, 0);
    }

    private static void faultOneBlank() {
        Run run = ready("there is one blank ahead of a number").noFault("lift 2;").fault("lift2;", 0, 1, 4);
        run.fault("lift  2;", 0, 1, 5).fault("lift_2;", 0, 1, 4).fault("lift 2 ;", 0, 1, 6).fault(" lift 2;", 0, 1, 0);
        run.fault("weigh ;", 0, 1, 5).fault("weigh; lift 2;", 6, 1, 0).fault("weigh; ", 6, 1, 0).fault(" ", 0, 1, 0);
    }

    private static void faultOneDigit() {
        Run run = ready("a number, which is one digit").noFault("lift 2;").fault("lift 02;", 0, 1, 6);
        run.fault("lift 22;", 0, 1, 6);
        run.fault("lift /;", 0, 1, 5).fault("lift :;", 0, 1, 5).fault("lift -2;", 0, 1, 5).fault("lift +2;", 0, 1, 5);
        run.fault("lift x;", 0, 1, 5).fault("lift ;", 0, 1, 5).fault("lift 2.;", 0, 1, 6).fault("lift 10;", 0, 1, 6);
        run.fault("lift 0;", 0, 3, NONE).fault("lift 9;", 0, 2, NONE);
    }

    private static void faultFormOfEachOrder() {
        Run run = ready("\"lift\", \"lay\", \"weigh\", \"right\", \"left\", \"mount\", \"take\", \"serve\"");
        run.noFault("lift 2;").noFault("lay 1;").noFault("weigh;").noFault("right 1;").noFault("left 1;");
        run.noFault("take 0;");
        run.noFault("right 4;mount 1;").noFault("left 4;mount 1;");
        ready("\"serve\" and a rule").due("lay(1)", 1).due("request(9, 0)", 1).noFault("serve 0;").noFault("serve 3;");
        for (String word : new String[] {"lift", "lay", "right", "left", "mount", "take", "serve"}) {
            run.fault(word + ";", 0, 1, word.length()).fault(word + " ;", 0, 1, word.length() + 1);
            run.fault(word + " 1", 0, 1, word.length() + 2).fault(word + " 11;", 0, 1, word.length() + 2);
        }
        run.fault("weigh 0;", 0, 1, 5).fault("weigh 1;", 0, 1, 5);
    }

    private static void faultShelfAbove3() {
        Run run = new Run("2 if its number is out of its range: a shelf above 3");
        for (int number = 0; number <= 9; number++) {
            run.fault("lift " + number + ";", 0, number <= 3 ? 3 : 2, NONE);
            run.fault("lay " + number + ";", 0, number <= 3 ? 3 : 2, NONE);
        }
    }

    private static void faultWallsNot1To4() {
        Run run = new Run("2 if its number is out of its range: walls not 1 to 4");
        Run weighed = new Run("walls from 1 to 4").due("weigh()", 0);
        for (int number = 0; number <= 9; number++) {
            boolean in = number >= 1 && number <= 4;
            run.fault("right " + number + ";", 0, in ? 3 : 2, NONE).fault("left " + number + ";", 0, in ? 3 : 2, NONE);
            weighed.fault("right " + number + ";", in ? NONE : 0, in ? NONE : 2, NONE);
            weighed.fault("left " + number + ";", in ? NONE : 0, in ? NONE : 2, NONE);
        }
    }

    private static void faultDriveAbove1() {
        Run run = new Run("2 if its number is out of its range: a drive above 1");
        for (int number = 0; number <= 9; number++) {
            run.fault("mount " + number + ";", 0, number <= 1 ? 3 : 2, NONE);
            run.fault("take " + number + ";", 0, number <= 1 ? 3 : 2, NONE);
        }
    }

    private static void faultRuleAbove3() {
        Run run = new Run("2 if its number is out of its range: a rule above 3");
        Run possible = new Run("a rule up to 3").due("bring(3, 2, 0)", 0).due("hold(0, 9)", -1).due("request(9, 0)", 1);
        for (int number = 0; number <= 9; number++) {
            run.fault("serve " + number + ";", 0, number <= 3 ? 3 : 2, NONE);
            possible.fault("serve " + number + ";", number <= 3 ? NONE : 0, number <= 3 ? NONE : 2, NONE);
        }
    }

    private static void faultFormAheadOfRange() {
        Run run = ready("its reason is 1 if it is not of this form, its \";\" included").fault("lift 4", 0, 1, 6);
        run.fault("lift 9.", 0, 1, 6).fault("right 0", 0, 1, 7).fault("right 5 ;", 0, 1, 7).fault("mount 2", 0, 1, 7);
        run.fault("take 99;", 0, 1, 6).fault("serve 4", 0, 1, 7).fault("lay 4", 0, 1, 5).fault("left 0 ", 0, 1, 6);
        run.fault("lift 4;", 0, 2, NONE);
    }

    private static void faultRangeAheadOfTheState() {
        Run run = new Run("2 ahead of 3").fault("lift 4;", 0, 2, NONE).fault("lay 4;", 0, 2, NONE);
        run.fault("right 5;", 0, 2, NONE).fault("mount 2;", 0, 2, NONE).fault("take 2;", 0, 2, NONE);
        run.fault("serve 4;", 0, 2, NONE);
    }

    private static void faultNotPossibleOtherwise() {
        Run run = new Run("3 if it is not possible otherwise, also for a limit");
        for (int shelf = 0; shelf < 4; shelf++) {
            run.due("bring(3, 0, " + shelf + ")", shelf);
        }
        run.noFault("lift 0;lift 1;lift 2;").fault("lift 0;lift 1;lift 2;lift 3;", 21, 3, NONE);
        run.noFault("lift 0;lift 1;lift 2;lay 2;lift 3;").fault("lift 0;lift 1;lift 2;lift 2;", 21, 3, NONE);
        Run full = ready("3 for a drive whose cartridge has no place on the pile").due("lift(2)", 2);
        full.due("bring(3, 2, 0)", 3);
        full.noFault("take 0;").fault("lift 0;take 0;", 7, 3, NONE);
    }

    private static void faultNotPossibleForEachOrder() {
        Run run = ready("3 if it is not possible otherwise, each order").fault("lift 0;", 0, 3, NONE);
        run.fault("lay 2;", 0, 3, NONE);
        run.fault("mount 0;", 0, 3, NONE).fault("mount 1;", 0, 3, NONE).fault("take 1;", 0, 3, NONE);
        run.fault("serve 0;", 0, 3, NONE);
        run.fault("lay 0;right 1;", 6, 3, NONE).fault("lay 0;left 1;", 6, 3, NONE).due("hold(0, 8)", -1);
        run.due("request(8, 0)", 1);
        run.fault("lay 1;serve 0;", 6, 3, NONE);
        Run heavy = new Run("3 if it is too heavy for so many walls").due("bring(11, 0, 0)", 0);
        heavy.due("bring(10, 0, 1)", 1);
        heavy.noFault("lift 0;weigh;right 2;").fault("lift 0;weigh;right 3;", 13, 3, NONE);
        heavy.fault("lift 0;weigh;left 3;", 13, 3, NONE).noFault("lift 1;weigh;left 4;");
        heavy.noFault("lift 0;lift 1;weigh;right 1;").fault("lift 0;lift 1;weigh;right 2;", 20, 3, NONE);
    }

    private static void faultWhenThoseAheadAreDone() {
        Run run = ready("when those ahead of it are done").fault("lift 0;", 0, 3, NONE).noFault("lay 0;lift 0;");
        run.fault("lift 2;lift 2;", 7, 3, NONE).fault("right 1;right 1;", 8, 3, NONE).noFault("right 1;weigh;right 1;");
        run.fault("take 0;take 0;", 7, 3, NONE).noFault("take 0;mount 0;take 0;").fault("right 1;take 0;", 8, 3, NONE);
        run.due("fault(0)", NONE).due("count(2)", 1).due("count(11)", 0);
        Run worn = new Run("when those ahead of it are done, a cartridge that becomes worn").due("bring(3, 2, 0)", 0);
        worn.due("weigh()", 0).due("turn(2)", 2).due("lift(0)", 0).due("mount(0)", 0).due("take(0)", 0);
        worn.due("mount(0)", 0);
        worn.due("take(0)", 0).due("mount(0)", 0).due("take(0)", 0);
        worn.noFault("mount 0;take 0;mount 0;take 0;mount 0;take 0;");
        worn.fault("mount 0;take 0;mount 0;take 0;mount 0;take 0;mount 0;", 45, 3, NONE);
        Run serve = new Run("when those ahead of it are done, requests").due("bring(3, 2, 0)", 0);
        serve.due("bring(3, 6, 0)", 1);
        serve.due("hold(0, 0)", -1).due("hold(1, 1)", -1).due("request(0, 0)", 1).due("request(1, 9)", 2);
        serve.noFault("serve 0;serve 0;").fault("serve 1;serve 2;serve 0;", 16, 3, NONE);
        serve.fault("serve 0;lay 0;", 8, 3, NONE);
        serve.noFault("serve 0;take 0;lay 0;serve 1;take 1;lay 0;");
    }

    private static void faultOfTheFirstOrder() {
        Run run = ready("the first order that is not possible").fault("weigh;lift 9;x", 6, 2, NONE);
        run.fault("weigh;x;lift 9;", 6, 1, 0).fault("weigh;lift 0;lift 9;", 6, 3, NONE);
        run.fault("lift 9;lift 0;", 0, 2, NONE);
        run.fault("lift 0;lift", 0, 3, NONE).fault("lift;lift 0;", 0, 1, 4);
    }

    private static void faultPosition() {
        Run run = ready("the position, from 0, of the first character of the order").fault("x", 0, 1, 0);
        run.fault("weigh;x", 6, 1, 0).fault("lift 2;x", 7, 1, 0).fault("lay 0;weigh;right 1;x", 20, 1, 0);
        run.fault("lay 0;weigh;right 1;lift 4;", 20, 2, NONE).fault("lay 0;weigh;right 1;lift 0;", 20, 3, NONE);
        run.fault("weigh;right", 6, 1, 5);
    }

    private static void faultCauseNoneOfTheWords() {
        Run run = ready("the cause is 0 if its letters a to z are none of these words").fault("turn 1;", 0, 1, 0);
        run.fault("lif 1;", 0, 1, 0).fault("ift 1;", 0, 1, 0).fault("Lift 1;", 0, 1, 0).fault("LIFT 1;", 0, 1, 0);
        run.fault("lIft 1;", 0, 1, 0).fault("lifT 1;", 0, 1, 0).fault("1;", 0, 1, 0).fault("weig;", 0, 1, 0);
        run.fault("~", 0, 1, 0);
        run.fault("ser ve 1;", 0, 1, 0).fault("tak e 0;", 0, 1, 0).fault("lya 0;", 0, 1, 0).fault("lat 0;", 0, 1, 0);
        run.fault("lef 1;", 0, 1, 0).fault("moun 1;", 0, 1, 0).fault("righ 1;", 0, 1, 0).fault("la 1;", 0, 1, 0);
        for (String word : new String[] {"lift", "lay", "weigh", "right", "left", "mount", "take", "serve"}) {
            for (int i = 0; i < word.length(); i++) {
                run.fault(word.substring(0, i) + 'q' + word.substring(i + 1) + " 1;", 0, 1, 0);
                run.fault(word.substring(0, i) + word.substring(i + 1) + " 1;", 0, 1, 0);
            }
        }
    }

    private static void faultCauseAtTheEndOfTheText() {
        Run run = ready("the cause is 0, also at the end of the text");
        for (String word : new String[] {"lift", "lay", "weigh", "right", "left", "mount", "take", "serve"}) {
            for (int length = 1; length < word.length(); length++) {
                run.fault(word.substring(0, length), 0, 1, 0).fault("weigh;" + word.substring(0, length), 6, 1, 0);
            }
            run.fault(word, 0, 1, word.length()).fault("weigh;" + word, 6, 1, word.length());
        }
    }

    private static void faultCauseBeginningWithAWord() {
        Run run = ready("letters, as many as follow one another from its beginning on").fault("lifts 1;", 0, 1, 0);
        run.fault("liftlift 1;", 0, 1, 0).fault("layer 0;", 0, 1, 0).fault("weighed;", 0, 1, 0);
        run.fault("rights 1;", 0, 1, 0);
        run.fault("lefty", 0, 1, 0).fault("mounts 0;", 0, 1, 0).fault("taken 0;", 0, 1, 0).fault("server 0;", 0, 1, 0);
        run.fault("weighweigh;", 0, 1, 0).fault("liftx", 0, 1, 0);
    }

    private static void faultCauseLettersAToZ() {
        Run run = ready("letters a to z").fault("lifta 1;", 0, 1, 0).fault("liftz 1;", 0, 1, 0);
        run.fault("lift` 1;", 0, 1, 4);
        run.fault("lift{ 1;", 0, 1, 4).fault("liftA 1;", 0, 1, 4).fault("liftZ 1;", 0, 1, 4).fault("lift@", 0, 1, 4);
        run.fault("lift[", 0, 1, 4).fault("lift0 1;", 0, 1, 4).fault("weigh`", 0, 1, 5).fault("weigh{", 0, 1, 5);
        run.fault("weigha", 0, 1, 0).fault("weighz", 0, 1, 0);
    }

    private static void faultCauseBreaksOff() {
        Run run = ready("otherwise at which character, from 0, of the order it breaks off").fault("lay;", 0, 1, 3);
        run.fault("lay 0 ;", 0, 1, 5).fault("lay  0;", 0, 1, 4).fault("lay x;", 0, 1, 4).fault("right 1 ;", 0, 1, 7);
        run.fault("right  1;", 0, 1, 6).fault("right1;", 0, 1, 5).fault("weigh~;", 0, 1, 5).fault("take 0x;", 0, 1, 6);
        run.fault("serve 0 0;", 0, 1, 7).fault("mount a;", 0, 1, 6);
    }

    private static void faultCauseEndsTooEarly() {
        Run run = ready("of an order that the text ends too early it is its length");
        for (String order : new String[] {"lift 0;", "lay 0;", "right 1;", "left 1;", "mount 0;", "take 0;", "serve 0;", "weigh;"}) {
            int letters = order.indexOf(' ') < 0 ? 5 : order.indexOf(' ');
            for (int length = letters; length < order.length(); length++) {
                run.fault(order.substring(0, length), 0, 1, length);
                run.fault("weigh;weigh;" + order.substring(0, length), 12, 1, length);
            }
        }
    }

    private static void faultNothingOfAnEarlierText() {
        for (String order : new String[] {"lift 2;", "lay 0;", "right 1;", "left 1;", "take 0;", "weigh;"}) {
            int letters = order.indexOf(' ') < 0 ? 5 : order.indexOf(' ');
            for (int length = 1; length < order.length(); length++) {
                Run run = ready("promise 24: empties the text, nothing of an earlier one counts").typed(order + "weigh;");
                run.due("fault(0)", NONE).due("clearText()", order.length() + 6).typed(order.substring(0, length));
                run.told("fault(", 0, 1, length < letters ? 0 : length).error("play()", Run.NOT_POSSIBLE);
            }
            Run run = ready("promise 24: no orders of an earlier text").typed(order + order);
            run.due("clearText()", order.length() * 2);
            run.due("play()", 0).typed(order).due("play()", 1);
        }
        Run full = new Run("promise 24: nothing of an earlier text of 60 characters").typed(TEN_WEIGHINGS);
        full.due("clearText()", 60).told("fault(", NONE, NONE, NONE).due("play()", 0).typed("weigh;").due("play()", 1);
        full.typed("weigh").told("fault(", 6, 1, 5).due("clearText()", 11).typed("weig").told("fault(", 0, 1, 0);
    }

    private static void faultCauseWithinItsOrder() {
        Run run = ready("a character, from 0, of the order, not of the text").fault("weigh;lift;", 6, 1, 4);
        run.fault("lift 2;weigh 0;", 7, 1, 5).fault("lift 2;lay 2;weigh;lay 0x", 19, 1, 5);
        run.fault("weigh;weigh ", 6, 1, 5);
    }

    private static void faultCauseOnlyWithReason1() {
        Run run = ready("promise 25: NOT_FOUND for 2 if the reason is not 1").fault("lift 9;", 0, 2, NONE);
        run.fault("lift 0;", 0, 3, NONE).fault("weigh;lift 9;", 6, 2, NONE).fault("weigh;lift 0;", 6, 3, NONE);
        run.fault("lift", 0, 1, 4).fault("x", 0, 1, 0).noFault("weigh;");
    }

    private static void faultAtTheEndOfAFullText() {
        Run run = new Run("a text of 60 characters").noFault(TEN_WEIGHINGS);
        String nine = TEN_WEIGHINGS.substring(0, 54);
        run.fault(nine + "weighw", 54, 1, 0).fault(nine + "weigh ", 54, 1, 5).fault(nine + "lift 0", 54, 1, 6);
        run.fault(nine + "lay 0;", 54, 3, NONE).fault(nine + "lay 4;", 54, 2, NONE).fault(nine + "lay  0", 54, 1, 4);
        run.fault(TEN_WEIGHINGS.substring(0, 59), 54, 1, 5).fault(TEN_WEIGHINGS.replace("weigh;", "123456"), 0, 1, 0);
        run.fault(TEN_WEIGHINGS.replace(';', 'x'), 0, 1, 0).fault(TEN_WEIGHINGS.replace('w', ' '), 0, 1, 0);
        Run cut = run.again("a text that is cut at 60 characters").typed(nine + "serve ").error("type(48)", Run.LIMIT);
        cut.told("fault(", 54, 1, 6).error("play()", Run.NOT_POSSIBLE);
    }

    private static void faultChangesNothing() {
        Run run = ready("promise 25: it changes nothing").typed("lift 2;lay 2;take 0;lay 0;lay 3;x");
        run.error("fault(0)", 32).error("fault(1)", 1).error("fault(2)", 0).due("count(4)", 1).due("count(14)", 4);
    }

    private static void faultErrorsInOrder() {
        Run run = new Run("promise 25: INVALID_ARGUMENT rather than NOT_FOUND").error("fault(3)", Run.INVALID);
        run.error("fault(-1)", Run.INVALID).typed("lift 9;").error("fault(3)", Run.INVALID);
        run.error("fault(-1)", Run.INVALID);
    }

    private static void playNoOrders() {
        Run run = new Run("promise 26: one change, also if there are none").due("play()", 0).due("count(14)", 1);
        run.due("play()", 0).due("count(14)", 2).due("count(0)", 0).due("undo()", 1).due("undo()", 0);
        run.error("undo()", Run.NOT_POSSIBLE).due("bring(3, 0, 0)", 0).due("play()", 0).due("undo()", 1);
        run.due("count(5)", 1);
        for (int times = 2; times <= 6; times++) {
            run.due("play()", 0).due("count(14)", Math.min(4, times));
        }
    }

    private static void playTenOrders() {
        Run run = new Run("promise 26: returns how many there are in it, 10").typed(TEN_WEIGHINGS).due("play()", 10);
        run.due("count(0)", 10).due("count(4)", 1).due("count(15)", 60).due("count(14)", 1).due("play()", 10);
        run.due("count(0)", 20);
        for (int orders = 1; orders <= 9; orders++) {
            run.due("clearText()", orders == 1 ? 60 : 6 * orders - 6).typed(TEN_WEIGHINGS.substring(0, 6 * orders));
            run.due("play()", orders);
        }
    }

    private static void playOneChange() {
        Run run = ready("promise 26: they are one change").typed("lift 2;lay 0;lay 2;serve 0;").due("request(9, 0)", 1);
        // lift 1, lay 1, lay 1; lift 1, weigh 1, 4 walls 4, mount 3
        run.due("count(14)", 4).due("count(0)", 9).due("play()", 4).due("count(0)", 9 + 3 + 9).due("count(12)", 2);
        run.due("undo()", 3).due("count(0)", 9).due("count(2)", 1).due("shelfOf(2, 2)", 2).due("count(8)", 1);
        run.due("undo()", 2);
        run.due("count(8)", 0);
    }

    private static void playTextStays() {
        Run run = new Run("promise 26: all orders of the text, which stays").typed("weigh;right 1;").due("play()", 2);
        run.due("count(15)", 14).due("play()", 2).due("count(1)", 2).due("undo()", 1).due("count(15)", 14);
        run.due("count(1)", 1);
        run.due("play()", 2).due("count(1)", 2).typed("weigh;left 3;").due("play()", 4).due("count(1)", 0);
        run.due("count(15)", 27);
    }

    private static void playHasAFault() {
        Run run = ready("promise 26: NOT_POSSIBLE if it has a fault").typed("lay 0;weigh;right 1;lift 0;");
        run.error("play()", Run.NOT_POSSIBLE).due("bring(5, 3, 0)", 3).due("play()", 4).due("count(3)", 5);
        run.error("play()", Run.NOT_POSSIBLE).due("undo()", 3).due("play()", 4);
    }

    private static void playEachReason() {
        for (String text : new String[] {"x", "lift", "lift 1", "lift 4;", "right 0;", "lift 0;", "mount 1;", ";", " ", "weigh"}) {
            ready("promise 26: NOT_POSSIBLE for " + text).typed(text).error("play()", Run.NOT_POSSIBLE);
            ready("promise 26: NOT_POSSIBLE at the end for " + text).typed("weigh;" + text).error("play()", Run.NOT_POSSIBLE);
        }
    }

    private static void playStopsAtNothing() {
        Run run = new Run("promise 26: a fault of the last order changes nothing").due("bring(3, 0, 0)", 0);
        run.due("weigh()", 0);
        run.typed("lift 0;weigh;left 2;mount 1;take 1;lay 0;lay 0;").error("play()", Run.NOT_POSSIBLE);
        run.due("fault(0)", 41);
        run.due("count(14)", 2).due("count(4)", 1).due("count(0)", 1).due("shelfOf(0, 0)", 0);
    }

    private static void playAsTheCalls() {
        String[] calls = {"take(0)", "lay(0)", "lay(1)", "serve(1)", "weigh()", "turn(1)", "weigh()", "turn(-4)"};
        Run played = ready("promise 26: does all orders").due("request(9, 0)", 1);
        played.typed("take 0;lay 0;lay 1;serve 1;weigh;right 1;");
        Run called = ready("promise 26: as the calls do them").due("request(9, 0)", 1);
        called.typed("take 0;lay 0;lay 1;serve 1;weigh;right 1;");
        int[] wants = {0, 0, 1, 1, 0, 3, 0, 7};
        for (int i = 0; i < 6; i++) {
            called.due(calls[i], wants[i]);
        }
        played.due("play()", 6);
        called.differences("as play() does them, ", called.everything().get(0), played.everything().get(0));
        played.due("clearText()", 41).typed("weigh;left 4;").due("play()", 2);
        called.due(calls[6], wants[6]).due(calls[7], wants[7]).due("clearText()", 41).typed("weigh;left 4;");
        called.differences("as play() does them, ", called.everything().get(0), played.everything().get(0));
    }
}
