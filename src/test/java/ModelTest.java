import java.lang.reflect.InvocationTargetException;
import java.lang.reflect.Method;
import java.lang.reflect.Modifier;
import java.util.ArrayList;
import java.util.List;
import java.util.Random;

/**
 * All promises: random runs of at most 512 calls, each answer beside that of the plain library. Every
 * other run is a shorter one that ends with a look at everything.
 */
public final class ModelTest {
    private static final int RUNS = 3000;
    private static final int CALLS = 512;
    /** So many calls leave room for four of undo, and for a look at everything. */
    private static final int CALLS_AHEAD_OF_A_LOOK = 105;
    private static final int[] ODD = {Integer.MIN_VALUE, Integer.MIN_VALUE + 1, -6, -2, -1, 60, 61, 127, 1 << 29,
        Integer.MAX_VALUE - 1, Integer.MAX_VALUE};
    private static final String[] LOOKS = {"cartridgeOf", "shelfOf", "holder", "requestOf", "nextBy", "would", "wayTo",
        "wholeBatch", "count", "fault"};

    private static int wrong = 0;

    private final Random random;
    private final MastRobots object = new MastRobots();
    private final PlainLibrary plain = new PlainLibrary();
    private final List<String> calls = new ArrayList<>();
    private boolean broken = false;
    private int most;

    private ModelTest(long seed) {
        random = new Random(seed);
    }

    public static void main(String[] args) {
        for (int run = 0; run < RUNS && wrong < 5; run++) {
            new ModelTest(run).run(run % 6, CALLS);
            ModelTest looking = new ModelTest(RUNS + run);
            looking.run(run % 6, CALLS_AHEAD_OF_A_LOOK);
            looking.lookAtEverything(run % 5);
        }
        System.out.println(wrong == 0 ? "all answers are as due" : wrong + " runs are not as due");
        if (wrong != 0) {
            System.exit(1);
        }
    }

    private void run(int kind, int length) {
        most = length;
        while (calls.size() < most && !broken) {
            step(kind);
        }
    }

    private void lookAtEverything(int undone) {
        most = CALLS;
        for (int i = 0; i < undone; i++) {
            both("undo");
        }
        looks("count", 16);
        looks("cartridgeOf", Math.min(cartridges(), 30), 7);
        looks("shelfOf", 8, 4);
        looks("holder", 60);
        looks("requestOf", 12, 3);
        looks("nextBy", 4);
        looks("would", 4, 5);
        looks("wayTo", 8);
        looks("wholeBatch", 4, 3);
        looks("fault", 3);
    }

    private void looks(String name, int numbers) {
        for (int number = 0; number < numbers; number++) {
            both(name, number);
        }
    }

    private void looks(String name, int numbers, int others) {
        for (int number = 0; number < numbers; number++) {
            for (int other = 0; other < others; other++) {
                both(name, number, other);
            }
        }
    }

    private void step(int kind) {
        int dice = random.nextInt(100);
        if (dice < 5) {
            any();
        } else if (dice < 15) {
            look(LOOKS[random.nextInt(LOOKS.length)]);
        } else if (dice < 20 && kind != 1) {
            both("undo");
        } else if (dice < 23 && kind >= 3) {
            text();
        } else if (dice < 45) {
            neighbors(kind);
        } else if (dice < 65) {
            files(kind);
        } else {
            robot(kind);
        }
    }

    /** A call with arguments out of range. */
    private void any() {
        List<Method> methods = new ArrayList<>();
        for (Method method : PlainLibrary.class.getDeclaredMethods()) {
            if (isCall(method)) {
                methods.add(method);
            }
        }
        methods.sort((one, other) -> one.getName().compareTo(other.getName()));
        Method method = methods.get(random.nextInt(methods.size()));
        int[] arguments = new int[method.getParameterCount()];
        for (int i = 0; i < arguments.length; i++) {
            arguments[i] = random.nextInt(3) == 0 ? ODD[random.nextInt(ODD.length)] : random.nextInt(9) - 1;
        }
        both(method.getName(), arguments);
    }

    private static boolean isCall(Method method) {
        for (Method call : MastRobots.class.getDeclaredMethods()) {
            if (Modifier.isPublic(call.getModifiers()) && call.getName().equals(method.getName())) {
                return method.getReturnType() == int.class;
            }
        }
        return false;
    }

    private void look(String name) {
        switch (name) {
            case "cartridgeOf":
                both(name, random.nextInt(31), random.nextInt(7));
                break;
            case "shelfOf":
                both(name, random.nextInt(8), random.nextInt(4));
                break;
            case "holder":
                both(name, random.nextInt(60));
                break;
            case "requestOf":
                both(name, random.nextInt(13), random.nextInt(3));
                break;
            case "wayTo":
                both(name, random.nextInt(8));
                break;
            case "would":
                both(name, random.nextInt(4), random.nextInt(5));
                break;
            case "wholeBatch":
                both(name, random.nextInt(4), random.nextInt(3));
                break;
            case "count":
                both(name, random.nextInt(16));
                break;
            case "nextBy":
                both(name, random.nextInt(4));
                break;
            default:
                both(name, random.nextInt(3));
        }
    }

    private int cartridges() {
        return Math.max(1, plain.count(5));
    }

    private void neighbors(int kind) {
        if (kind == 1) {
            // Few cartridges, so that they become worn.
            if (plain.count(5) < 5) {
                both("bring", 1 + random.nextInt(20), 2 + 4 * random.nextInt(2), random.nextInt(4));
            }
            return;
        }
        if (random.nextInt(3) > 0) {
            int heaviest = random.nextInt(2) == 0 ? 20 : 6;
            both("bring", 1 + random.nextInt(heaviest), random.nextInt(8), random.nextInt(kind == 0 ? 4 : 2));
        } else if (random.nextBoolean()) {
            both("send", random.nextInt(cartridges()), -1, -1);
        } else {
            both("send", random.nextInt(cartridges()), random.nextInt(8), random.nextInt(4));
        }
    }

    private void files(int kind) {
        int files = kind == 5 ? 60 : 12;
        if (random.nextInt(3) == 0) {
            both("hold", random.nextInt(cartridges()), random.nextInt(files));
        } else {
            both("request", random.nextInt(files), random.nextInt(10));
        }
    }

    private void robot(int kind) {
        int dice = random.nextInt(kind == 2 ? 7 : kind == 1 ? 30 : 12);
        switch (dice) {
            case 0:
            case 1:
                both("lift", random.nextInt(4));
                break;
            case 2:
                both("lay", random.nextInt(4));
                break;
            case 3:
            case 4:
                both("weigh");
                both("turn", random.nextInt(9) - 4);
                break;
            case 5:
                both("mount", random.nextInt(2));
                break;
            case 6:
                both("take", random.nextInt(2));
                break;
            case 7:
                // The pile stays empty more often, so that serving is possible.
                both("lay", random.nextInt(4));
                both("lay", random.nextInt(4));
                break;
            default:
                both("serve", random.nextInt(4));
        }
    }

    private String order() {
        String[] words = {"lift", "lay", "weigh", "right", "left", "mount", "take", "serve", "lif", "weighs", "", "go"};
        String word = words[random.nextInt(random.nextInt(20) == 0 ? 12 : 8)];
        if (word.equals("weigh") && random.nextInt(20) > 0) {
            return "weigh;";
        }
        return word + ' ' + (char) ('0' + random.nextInt(random.nextInt(10) == 0 ? 10 : 4)) + ';';
    }

    /** One of those that are possible behind a text, if some tries find one. */
    private String possibleOrder(String behind) {
        String order = order();
        for (int tries = 0; tries < 20 && plain.hasFault(behind + order); tries++) {
            order = order();
        }
        return order;
    }

    private void text() {
        if (random.nextInt(10) > 0) {
            both("clearText");
        }
        StringBuilder typed = new StringBuilder();
        boolean isPossible = random.nextInt(4) > 0;
        for (int orders = random.nextInt(8); orders >= 0; orders--) {
            typed.append(isPossible ? possibleOrder(typed.toString()) : order());
        }
        if (random.nextInt(6) == 0) {
            typed.setCharAt(random.nextInt(typed.length()), (char) (32 + random.nextInt(95)));
        }
        if (random.nextInt(6) == 0) {
            typed.setLength(random.nextInt(typed.length()));
        }
        for (int i = 0; i < typed.length(); i++) {
            both("type", typed.charAt(i));
        }
        for (int what = 0; what < 3; what++) {
            both("fault", what);
        }
        both("play");
    }

    private void both(String name, int... arguments) {
        if (broken || calls.size() >= most) {
            return;
        }
        StringBuilder call = new StringBuilder(name).append('(');
        for (int i = 0; i < arguments.length; i++) {
            call.append(i == 0 ? "" : ", ").append(arguments[i]);
        }
        calls.add(call.append(')').toString());
        String got = answer(object, name, arguments);
        String want = answer(plain, name, arguments);
        if (!got.equals(want)) {
            broken = true;
            wrong++;
            System.out.println(calls + " answered " + got + ", the plain library " + want);
        }
    }

    private static String answer(Object asked, String name, int... arguments) {
        Class<?>[] types = new Class<?>[arguments.length];
        Object[] boxed = new Object[arguments.length];
        for (int i = 0; i < arguments.length; i++) {
            types[i] = int.class;
            boxed[i] = arguments[i];
        }
        try {
            Method method = asked.getClass().getDeclaredMethod(name, types);
            return String.valueOf(method.invoke(asked, boxed));
        } catch (InvocationTargetException thrown) {
            return String.valueOf(thrown.getCause());
        } catch (ReflectiveOperationException unknown) {
            return String.valueOf(unknown);
        }
    }
}
