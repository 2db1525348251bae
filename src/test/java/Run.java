import java.lang.reflect.InvocationTargetException;
import java.lang.reflect.Method;
import java.util.ArrayList;
import java.util.HashMap;
import java.util.List;
import java.util.Map;

/**
 * A run of calls on a new object: calls told as texts, each with the answer that is due.
 *
 * <p>The document promises something of an object for 512 calls alone. So a run has no more of them,
 * and all that an object tells of itself is asked of other new objects, with which the run is made
 * once more.
 */
final class Run {
    static final int INVALID = -1000001;
    static final int NOT_POSSIBLE = -1000002;
    static final int LIMIT = -1000003;
    static final int NOT_FOUND = -1000004;

    private static final int MOST_CALLS = 512;
    private static final Map<String, Call> KNOWN = new HashMap<>();
    private static final List<Call> LOOKS = looks();
    private static final Call UNDO = call("undo()");

    private static int wrong = 0;

    private final String name;
    private final MastRobots object = new MastRobots();
    private final List<Call> made = new ArrayList<>();

    Run(String name) {
        this.name = name;
    }

    /** Makes a call, as "bring(1, 0, 0)", and prints it if its answer is not the one that is due. */
    Run due(String text, int want) {
        Call call = call(text);
        made.add(call);
        String got = call.on(object);
        if (!got.equals(Integer.toString(want))) {
            report(text + " answered " + got + ", due is " + want);
        }
        if (made.size() > MOST_CALLS) {
            report("the test itself makes more than " + MOST_CALLS + " calls");
        }
        return this;
    }

    /** A call that has to change nothing: one that returns an error, or one that only looks. */
    Run error(String text, int want) {
        List<List<String>> before = everything();
        due(text, want);
        List<List<String>> after = everything();
        if (before.size() != after.size()) {
            report(text + " changed how many states are in the history");
        }
        for (int undone = 0; undone < Math.min(before.size(), after.size()); undone++) {
            String where = text + " has to change nothing, but " + undone + " calls of undo later ";
            differences(where, after.get(undone), before.get(undone));
        }
        return this;
    }

    /** An argument, told as #, that is not from the lowest to the greatest: invalid, and nothing changes. */
    Run range(String text, int lowest, int greatest) {
        int[] numbers = {lowest - 1, greatest + 1, lowest - 2, greatest + 2, lowest - 256, greatest + 256,
            lowest + 65536, greatest - 65536, lowest + (1 << 30), greatest - (1 << 30), Integer.MIN_VALUE,
            Integer.MAX_VALUE, lowest + Integer.MIN_VALUE, greatest + Integer.MIN_VALUE};
        List<List<String>> before = everything();
        for (int number : numbers) {
            if (number < lowest || number > greatest) {
                due(text.replace("#", Integer.toString(number)), INVALID);
            }
        }
        List<List<String>> after = everything();
        for (int undone = 0; undone < before.size(); undone++) {
            differences(text + " out of range has to change nothing, but ", after.get(undone), before.get(undone));
        }
        return this;
    }

    /** The same call with each number from one to another, each with the same answer. */
    Run each(String text, int from, int to, int want) {
        for (int number = from; number <= to; number++) {
            due(text.replace("#", Integer.toString(number)), want);
        }
        return this;
    }

    /** Calls that differ in the last argument, from 0 on, each with its own answer. */
    Run told(String beginning, int... wants) {
        for (int last = 0; last < wants.length; last++) {
            due(beginning + last + ")", wants[last]);
        }
        return this;
    }

    /** Types a text behind what there is. */
    Run typed(String text) {
        for (char character : text.toCharArray()) {
            Call call = call("type(" + (int) character + ")");
            made.add(call);
            call.on(object);
        }
        return this;
    }

    /** Looks at the fault of a text that is typed by another object, with which the run is made once more. */
    Run fault(String text, int position, int reason, int cause) {
        Run other = again(name + ", " + text);
        other.made.add(call("clearText()"));
        call("clearText()").on(other.object);
        other.typed(text).due("fault(0)", position).due("fault(1)", reason).due("fault(2)", cause);
        return this;
    }

    /** A text that has no fault. */
    Run noFault(String text) {
        return fault(text, NOT_FOUND, NOT_FOUND, NOT_FOUND);
    }

    /** Another run that begins with all calls of this one. */
    Run again(String otherName) {
        Run other = new Run(otherName);
        for (Call call : made) {
            other.made.add(call);
            call.on(other.object);
        }
        return other;
    }

    /** All that the object tells of itself, and all that it tells after one call of undo, after two, and so on. */
    List<List<String>> everything() {
        List<List<String>> states = new ArrayList<>();
        MastRobots probe = replay(0);
        do {
            states.add(state(states.size()));
        } while (!UNDO.on(probe).equals(Integer.toString(NOT_POSSIBLE)) && states.size() < 10);
        return states;
    }

    /** Prints what two states, as everything tells them, differ in. */
    void differences(String where, List<String> got, List<String> want) {
        for (int i = 0; i < want.size(); i++) {
            if (!want.get(i).equals(got.get(i))) {
                report(where + got.get(i) + ", due is " + want.get(i));
            }
        }
    }

    void report(String what) {
        wrong++;
        System.out.println(name + ": " + what);
    }

    /** Ends a test: with exit code 1 if an answer was not the one that is due. */
    static void end() {
        System.out.println(wrong == 0 ? "all answers are as due" : wrong + " answers are not as due");
        if (wrong != 0) {
            System.exit(1);
        }
    }

    private List<String> state(int undone) {
        List<String> told = new ArrayList<>();
        int room = Math.max(1, MOST_CALLS - made.size() - undone);
        MastRobots probe = null;
        for (int i = 0; i < LOOKS.size(); i++) {
            if (i % room == 0) {
                probe = replay(undone);
            }
            told.add(LOOKS.get(i).text + " = " + LOOKS.get(i).on(probe));
        }
        return told;
    }

    private MastRobots replay(int undone) {
        MastRobots probe = new MastRobots();
        for (Call call : made) {
            call.on(probe);
        }
        for (int i = 0; i < undone; i++) {
            UNDO.on(probe);
        }
        return probe;
    }

    private static List<Call> looks() {
        List<Call> looks = new ArrayList<>();
        look(looks, "count(", 16);
        for (int cartridge = 0; cartridge < 30; cartridge++) {
            look(looks, "cartridgeOf(" + cartridge + ", ", 7);
        }
        for (int wall = 0; wall < 8; wall++) {
            look(looks, "shelfOf(" + wall + ", ", 4);
        }
        look(looks, "wayTo(", 8);
        look(looks, "holder(", 60);
        for (int index = 0; index < 12; index++) {
            look(looks, "requestOf(" + index + ", ", 3);
        }
        look(looks, "nextBy(", 4);
        for (int rule = 0; rule <= 3; rule++) {
            look(looks, "would(" + rule + ", ", 5);
            look(looks, "wholeBatch(" + rule + ", ", 3);
        }
        look(looks, "fault(", 3);
        return looks;
    }

    private static void look(List<Call> looks, String beginning, int numbers) {
        for (int last = 0; last < numbers; last++) {
            looks.add(call(beginning + last + ")"));
        }
    }

    private static Call call(String text) {
        return KNOWN.computeIfAbsent(text, Call::new);
    }

    private static final class Call {
        private final String text;
        private final Object[] arguments;
        private final Method method;

        Call(String text) {
            this.text = text;
            int open = text.indexOf('(');
            String inside = text.substring(open + 1, text.length() - 1);
            String[] told = inside.isEmpty() ? new String[0] : inside.split(", ");
            arguments = new Object[told.length];
            Class<?>[] types = new Class<?>[told.length];
            for (int i = 0; i < told.length; i++) {
                arguments[i] = Integer.valueOf(told[i]);
                types[i] = int.class;
            }
            try {
                method = MastRobots.class.getMethod(text.substring(0, open), types);
            } catch (ReflectiveOperationException unknown) {
                throw new IllegalArgumentException(text, unknown);
            }
        }

        String on(MastRobots asked) {
            try {
                return String.valueOf(method.invoke(asked, arguments));
            } catch (InvocationTargetException thrown) {
                return String.valueOf(thrown.getCause());
            } catch (ReflectiveOperationException unknown) {
                return String.valueOf(unknown);
            }
        }
    }
}
