import java.io.IOException;
import java.lang.reflect.Method;
import java.lang.reflect.Modifier;
import java.nio.charset.StandardCharsets;
import java.nio.file.Files;
import java.nio.file.Path;
import java.util.Map;
import java.util.TreeSet;
import java.util.regex.Matcher;
import java.util.regex.Pattern;
import java.util.stream.Stream;

/** What README.md says is so: its examples are done line by line, and its lists are whole. */
public final class ReadmeTest {
    private static final Map<String, Integer> ERRORS = Map.of("INVALID_ARGUMENT", MastRobots.INVALID_ARGUMENT,
            "NOT_POSSIBLE", MastRobots.NOT_POSSIBLE, "LIMIT_REACHED", MastRobots.LIMIT_REACHED,
            "NOT_FOUND", MastRobots.NOT_FOUND);
    private static final Pattern BLOCK = Pattern.compile("(?s)```java\n(.*?)```");
    private static final Pattern CALL = Pattern.compile("library\\.(\\w+\\([-0-9, ]*\\)); +// (-?\\d+|[A-Z_]+): .+");
    private static final Pattern TYPED = Pattern.compile(
            "for \\(char each : \"([^\"]+)\"\\.toCharArray\\(\\)\\) \\{ library\\.type\\(each\\); \\}");
    private static final Pattern LISTED = Pattern.compile("`(\\w+)\\((\\w+(?:, \\w+)*)?\\)`");

    private static Run run = new Run("README.md, its examples");

    public static void main(String[] args) throws IOException {
        String readme = Files.readString(Path.of("README.md"), StandardCharsets.UTF_8);
        examples(readme);
        calls(readme.substring(readme.indexOf("All calls take")));
        tests(readme.substring(readme.indexOf("How to run its tests")));
        files(readme);
        Run.end();
    }

    private static void examples(String readme) {
        Matcher block = BLOCK.matcher(readme);
        int lines = 0;
        while (block.find()) {
            for (String line : block.group(1).split("\n")) {
                example(line);
                lines++;
            }
        }
        if (lines < 20) {
            run.report("it has " + lines + " lines of examples");
        }
    }

    private static void example(String line) {
        Matcher call = CALL.matcher(line);
        Matcher typed = TYPED.matcher(line);
        if (line.equals("MastRobots library = new MastRobots();")) {
            run = new Run("README.md, its examples");
        } else if (typed.matches()) {
            run.typed(typed.group(1));
        } else if (call.matches()) {
            String answer = call.group(2);
            run.due(call.group(1), ERRORS.containsKey(answer) ? ERRORS.get(answer) : Integer.parseInt(answer));
        } else {
            run.report("a line that says no answer: " + line);
        }
    }

    /** Each call of the face is listed once, with as many arguments as it has. */
    private static void calls(String list) {
        TreeSet<String> listed = new TreeSet<>();
        Matcher matcher = LISTED.matcher(list);
        while (matcher.find()) {
            String name = matcher.group(1);
            String arguments = matcher.group(2);
            if (!listed.add(name + " " + (arguments == null ? 0 : arguments.split(", ").length))) {
                run.report(name + " is listed twice");
            }
        }
        TreeSet<String> face = new TreeSet<>();
        for (Method method : MastRobots.class.getDeclaredMethods()) {
            if (Modifier.isPublic(method.getModifiers())) {
                face.add(method.getName() + " " + method.getParameterCount());
            }
        }
        same("the calls", listed, face);
    }

    /** The tests that are named are those that there are. */
    private static void tests(String text) throws IOException {
        TreeSet<String> named = new TreeSet<>();
        Matcher matcher = Pattern.compile("`(\\w+Test)`").matcher(text);
        while (matcher.find()) {
            named.add(matcher.group(1));
        }
        TreeSet<String> present = new TreeSet<>();
        try (Stream<Path> files = Files.list(Path.of("src/test/java"))) {
            files.map(file -> file.getFileName().toString()).filter(name -> name.endsWith("Test.java"))
                    .forEach(name -> present.add(name.substring(0, name.length() - ".java".length())));
        }
        same("the tests", named, present);
    }

    private static void files(String readme) {
        for (String file : new String[] {"src/main/java/MastRobots.java", ".ci/run", "NOTES.md"}) {
            if (!readme.contains("`" + file + "`") || !Files.isRegularFile(Path.of(file))) {
                run.report("the file " + file);
            }
        }
    }

    private static void same(String what, TreeSet<String> said, TreeSet<String> due) {
        if (!said.equals(due)) {
            run.report(what + " are " + said + ", due is " + due);
        }
    }
}
