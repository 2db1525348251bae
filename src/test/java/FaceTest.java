import java.lang.reflect.Constructor;
import java.lang.reflect.Field;
import java.lang.reflect.Method;
import java.lang.reflect.Modifier;
import java.util.ArrayList;
import java.util.Arrays;
import java.util.List;
import java.util.TreeSet;

/** The public face: its constants, its constructor and its methods, and nothing else that is not private. */
public final class FaceTest {
    private static final String[] CALLS = {"bring 3", "send 3", "lift 1", "lay 1", "weigh 0", "turn 1", "mount 1",
        "take 1", "hold 2", "request 2", "serve 1", "cartridgeOf 2", "shelfOf 2", "holder 1", "requestOf 2", "nextBy 1",
        "would 2", "wayTo 1", "wholeBatch 2", "count 1", "undo 0", "type 1", "clearText 0", "fault 1", "play 0"};

    private static int wrong = 0;

    public static void main(String[] args) {
        constants();
        calls();
        classItself();
        System.out.println(wrong == 0 ? "the face is as due" : wrong + " parts of the face are not as due");
        if (wrong != 0) {
            System.exit(1);
        }
    }

    private static void due(String what, Object got, Object want) {
        if (!got.equals(want)) {
            wrong++;
            System.out.println(what + " is " + got + ", due is " + want);
        }
    }

    private static void constants() {
        due("INVALID_ARGUMENT", MastRobots.INVALID_ARGUMENT, -1000001);
        due("NOT_POSSIBLE", MastRobots.NOT_POSSIBLE, -1000002);
        due("LIMIT_REACHED", MastRobots.LIMIT_REACHED, -1000003);
        due("NOT_FOUND", MastRobots.NOT_FOUND, -1000004);
        List<String> names = new ArrayList<>();
        for (Field field : MastRobots.class.getDeclaredFields()) {
            if (!Modifier.isPrivate(field.getModifiers())) {
                names.add(Modifier.toString(field.getModifiers()) + " " + field.getType() + " " + field.getName());
            }
        }
        due("the constants", names, Arrays.asList("public static final int INVALID_ARGUMENT",
                "public static final int NOT_POSSIBLE", "public static final int LIMIT_REACHED",
                "public static final int NOT_FOUND"));
    }

    private static void calls() {
        List<String> names = new ArrayList<>();
        List<String> hidden = new ArrayList<>();
        for (Method method : MastRobots.class.getDeclaredMethods()) {
            if (Modifier.isPrivate(method.getModifiers())) {
                hidden.add(method.getName());
                continue;
            }
            names.add(method.getName() + " " + method.getParameterCount());
            due("the modifiers of " + method.getName(), Modifier.toString(method.getModifiers()), "public");
            due("what " + method.getName() + " returns", method.getReturnType(), int.class);
            for (Class<?> type : method.getParameterTypes()) {
                due("an argument of " + method.getName(), type, int.class);
            }
        }
        due("the methods", new TreeSet<>(names), new TreeSet<>(Arrays.asList(CALLS)));
        due("how many methods", names.size(), CALLS.length);
        for (String call : CALLS) {
            String name = call.substring(0, call.indexOf(' '));
            due("a private method " + name, hidden.contains(name), false);
        }
    }

    private static void classItself() {
        due("the class", Modifier.toString(MastRobots.class.getModifiers()), "public final");
        due("its package", MastRobots.class.getPackageName(), "");
        Constructor<?>[] constructors = MastRobots.class.getDeclaredConstructors();
        due("how many constructors", constructors.length, 1);
        due("the constructor", Modifier.toString(constructors[0].getModifiers()), "public");
        due("its arguments", constructors[0].getParameterCount(), 0);
        for (Class<?> inside : MastRobots.class.getDeclaredClasses()) {
            due(inside + " is static", Modifier.isStatic(inside.getModifiers()), true);
            due(inside + " is public", Modifier.isPublic(inside.getModifiers()), false);
        }
    }
}
