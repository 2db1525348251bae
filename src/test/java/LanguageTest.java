import java.io.IOException;
import java.nio.charset.StandardCharsets;
import java.nio.file.Files;
import java.nio.file.Path;
import java.util.regex.Matcher;
import java.util.regex.Pattern;

/** The rules of LANGUAGE.md that can be seen by looking for words in the source. */
public final class LanguageTest {
    private static final String SOURCE = "src/main/java/MastRobots.java";

    private static int wrong = 0;

    public static void main(String[] args) throws IOException {
        String source = Files.readString(Path.of(SOURCE), StandardCharsets.UTF_8);
        noSign(source);
        String code = source.replaceAll("(?s)/\\*.*?\\*/", " ").replaceAll("//[^\n]*", " ");
        code = code.replaceAll("\"[^\"\n]*\"", "\"\"").replaceAll("'[^'\n]'", "' '");
        none(code, "rule 6", "\\b(throw|throws|try|catch|finally|synchronized|assert)\\b");
        none(code, "rule 6", "\\.(equals|hashCode|toString)\\(");
        none(code, "rule 2", "->|::|\\b(var|yield|record)\\s+\\w+\\s*[(={]");
        none(code, "rule 4", "\\b(package|java\\.io|java\\.net|java\\.nio|java\\.time|Object|Thread|Random|HashMap|Map|Set)\\b");
        none(code, "rule 4", "import (?!java\\.util\\.(Arrays|ArrayList|List|Iterator);)");
        none(code, "rule 4", "\\w+Exact\\b|\\bSystem\\.(?!arraycopy\\b)");
        none(code, "rule 5", "\\bstatic\\s+\\{|\\bstatic (?!final)[\\w\\[\\]]+ \\w+\\s*(=|;)");
        none(code, "rule 13", "\\b(nanoTime|currentTimeMillis|Math\\.random)\\b");
        none(code, "a loop without a bound", "while \\(true\\)|for \\(;;\\)");
        methodsAreShort(code);
        System.out.println(wrong == 0 ? "the source is as due" : wrong + " places are not as due");
        if (wrong != 0) {
            System.exit(1);
        }
    }

    private static void report(String what) {
        wrong++;
        System.out.println(SOURCE + ": " + what);
    }

    private static void noSign(String source) {
        for (int i = 0; i < source.length(); i++) {
            char sign = source.charAt(i);
            if (sign > 126 || sign < 32 && sign != '\n') {
                report("the sign " + (int) sign);
            }
        }
    }

    private static void none(String code, String rule, String pattern) {
        Matcher matcher = Pattern.compile(pattern).matcher(code);
        while (matcher.find()) {
            int line = 1;
            for (int i = 0; i < matcher.start(); i++) {
                line += code.charAt(i) == '\n' ? 1 : 0;
            }
            report(rule + ": " + matcher.group() + " (about line " + line + ")");
        }
    }

    private static void methodsAreShort(String code) {
        String[] lines = code.split("\n");
        int start = -1;
        String end = "";
        for (int i = 0; i < lines.length; i++) {
            Matcher matcher = Pattern.compile("^( {4}| {8})(?! )[\\w\\[\\]. ]+\\([^;]*\\) \\{$").matcher(lines[i]);
            if (start < 0 && matcher.find()) {
                start = i;
                end = matcher.group(1) + "}";
            } else if (start >= 0 && lines[i].equals(end)) {
                if (i - start > 60) {
                    report("rule 11: long method: " + lines[start].trim());
                }
                start = -1;
            }
        }
    }
}
