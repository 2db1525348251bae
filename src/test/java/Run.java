import java.lang.reflect.InvocationTargetException;
import java.lang.reflect.Method;
import java.util.ArrayList;
import java.util.List;

/**
 * A run of calls on a new object: calls told as texts, each with the answer that is due. Looking at
 * everything makes more than the 512 calls for which the document promises something; the class
 * does not count its calls, so that its answers hold all the same.
 */
final class Run {
    static final int INVALID = -1000001;
    static final int NOT_POSSIBLE = -1000002;
    static final int LIMIT = -1000003;
    static final int NOT_FOUND = -1000004;

    private static int wrong = 0;

    private final String name;
    private final MastRobots object = new MastRobots();

    Run(String name) {
        this.name = name;
    }

    /** Makes a call, as "bring(1, 0, 0)", and prints it if its answer is not the one that is due. */
    Run due(String call, int want) {
        String got = answer(call);
        if (!got.equals(Integer.toString(want))) {
            report(call + " answered " + got + ", due is " + want);
        }
        return this;
    }

    /** A call that returns an error, and has to change nothing. */
    Run error(String call, int want) {
        List<String> before = everything();
        due(call, want);
        List<String> after = everything();
        for (int i = 0; i < before.size(); i++) {
            if (!before.get(i).equals(after.get(i))) {
                report(call + " returns an error, but changed " + before.get(i) + " into " + after.get(i));
            }
        }
        return this;
    }

    /** Types a text behind what there is. */
    Run typed(String text) {
        for (char character : text.toCharArray()) {
            object.type(character);
        }
        return this;
    }

    /** Types a text instead of what there is, and looks at its fault. */
    Run fault(String text, int position, int reason, int cause) {
        object.clearText();
        typed(text);
        return due("fault(0)", position).due("fault(1)", reason).due("fault(2)", cause);
    }

    /** Types a text instead of what there is; it has no fault. */
    Run noFault(String text) {
        return fault(text, NOT_FOUND, NOT_FOUND, NOT_FOUND);
    }

    /** All that the object tells of itself. */
    List<String> everything() {
        List<String> told = new ArrayList<>();
        for (int what = 0; what <= 15; what++) {
            tell(told, "count(" + what + ")");
        }
        for (int cartridge = 0; cartridge < 30; cartridge++) {
            for (int what = 0; what <= 6; what++) {
                tell(told, "cartridgeOf(" + cartridge + ", " + what + ")");
            }
        }
        for (int wall = 0; wall < 8; wall++) {
            tell(told, "wayTo(" + wall + ")");
            for (int shelf = 0; shelf < 4; shelf++) {
                tell(told, "shelfOf(" + wall + ", " + shelf + ")");
            }
        }
        for (int file = 0; file < 60; file++) {
            tell(told, "holder(" + file + ")");
        }
        for (int index = 0; index < 12; index++) {
            for (int what = 0; what <= 2; what++) {
                tell(told, "requestOf(" + index + ", " + what + ")");
            }
        }
        for (int rule = 0; rule <= 3; rule++) {
            tell(told, "nextBy(" + rule + ")");
            for (int what = 0; what <= 4; what++) {
                tell(told, "would(" + rule + ", " + what + ")");
            }
            for (int what = 0; what <= 2; what++) {
                tell(told, "wholeBatch(" + rule + ", " + what + ")");
            }
        }
        for (int what = 0; what <= 2; what++) {
            tell(told, "fault(" + what + ")");
        }
        return told;
    }

    private void tell(List<String> told, String call) {
        told.add(call + " = " + answer(call));
    }

    private String answer(String call) {
        int open = call.indexOf('(');
        String inside = call.substring(open + 1, call.length() - 1);
        String[] told = inside.isEmpty() ? new String[0] : inside.split(", ");
        Object[] arguments = new Object[told.length];
        Class<?>[] types = new Class<?>[told.length];
        for (int i = 0; i < told.length; i++) {
            arguments[i] = Integer.valueOf(told[i]);
            types[i] = int.class;
        }
        try {
            Method method = MastRobots.class.getMethod(call.substring(0, open), types);
            return String.valueOf(method.invoke(object, arguments));
        } catch (InvocationTargetException thrown) {
            return String.valueOf(thrown.getCause());
        } catch (ReflectiveOperationException unknown) {
            return String.valueOf(unknown);
        }
    }

    void report(String what) {
        wrong++;
        System.out.println(name + ": " + what);
    }

    /** Ends a test: with exit code 1 if an answer was not the one that is due. */
    static void end() {
        System.out.println(wrong == 0 ? "all answers are as due" : wrong + " answers are not as due");
        if (wrong != 0) {
            System.exit(1);
        }
    }
}
