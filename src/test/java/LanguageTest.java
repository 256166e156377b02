import java.io.IOException;
import java.nio.file.Files;
import java.nio.file.Path;
import java.util.List;
import java.util.Map;
import java.util.TreeMap;
import java.util.regex.Matcher;
import java.util.regex.Pattern;

/** What of ../shared/LANGUAGE.md is seen from the program's text; .ci/run starts it in the project's folder. */
public final class LanguageTest {
    private static final Path PROGRAM = Path.of("src/main/java/RelatorsBench.java");
    private static final int MOST_LINES_OF_A_METHOD = 60;
    private static final int MOST_CLASSES = 12;
    private static final int MOST_PARAMETERS = 7;
    private static final int DEEPEST = 8;
    private static final Pattern METHOD = Pattern.compile(
            "^( {4,8})(?:\\w+ )*(\\w+)\\(([^)]*)\\)[^;{]*\\{\n(.*?)\n\\1\\}", Pattern.MULTILINE | Pattern.DOTALL);

    private static final String[][] FORBIDDEN = {
        {"1", "\\bprotected\\b|^package\\b"},
        {"2", "->|::"},
        {"3", "\\b(long|int|char|byte|boolean)\\[\\]\\[\\]\\[\\]|\\bvar\\b|\\bObject\\b|\\bMap\\b|\\bSet\\b"},
        {"4", "\\w+Exact\\b|\\bSystem\\.(?!arraycopy)|\\bstream\\b|\\bString\\.format\\b"},
        {"5", "\\bstatic\\s*\\{|\\bstatic int \\w+\\s*[=;]"},
        {"6", "\\b(try|catch|finally|synchronized|assert)\\b|\\bextends \\w*Exception\\b"},
        {"6", "\\b(equals|hashCode|toString)\\b"},
        {"6", "\\bthrow (?!new (IndexOutOfBounds|IllegalArgument|IllegalState)Exception\\(\"\"\\);)"},
        {"10", "\"\\s*\\+|\\+\\s*\""},
        {"13", "\\b(Random|Thread|Runtime|Process|File|Files|Socket|Clock|Instant)\\b"},
    };

    public static void main(String[] args) throws IOException {
        String text = Files.readString(PROGRAM);
        for (char c : text.toCharArray()) {
            if (c > 127) {
                Check.is("rule 4: a sign above 127", 0, c);
            }
        }
        String code = withoutTexts(text);
        for (String[] rule : FORBIDDEN) {
            Matcher matcher = Pattern.compile(rule[1], Pattern.MULTILINE).matcher(code);
            Check.is("rule " + rule[0], "", matcher.find() ? matcher.group() : "");
        }
        imports(code);
        classes(code);
        methods(code);
        depth(code);
        Check.close();
    }

    /** Comments are taken out, and what stands in quotes. */
    private static String withoutTexts(String text) {
        return text.replaceAll("(?s)/\\*.*?\\*/", "").replaceAll("//[^\n]*", "").replaceAll("\"[^\"\n]*\"", "\"\"");
    }

    private static void imports(String code) {
        Matcher matcher = Pattern.compile("^import ([^;]+);", Pattern.MULTILINE).matcher(code);
        while (matcher.find()) {
            String name = matcher.group(1);
            boolean allowed = List.of("java.util.ArrayList", "java.util.Arrays").contains(name);
            Check.is("rule 4: import " + name, true, allowed);
        }
    }

    private static void classes(String code) {
        Matcher matcher = Pattern.compile("^(.*)\\bclass (\\w+)", Pattern.MULTILINE).matcher(code);
        int count = 0;
        while (matcher.find()) {
            count++;
            boolean isFace = matcher.group(2).equals("RelatorsBench");
            Check.is("rule 1: the class " + matcher.group(2),
                    isFace ? "public final " : "    private static final ", matcher.group(1));
        }
        Check.is("rule 11: classes", true, count > 0 && count <= MOST_CLASSES);
    }

    private static void methods(String code) {
        Matcher matcher = METHOD.matcher(code);
        int count = 0;
        while (matcher.find()) {
            count++;
            String name = matcher.group(2);
            Check.is("rule 11: lines of " + name, true,
                    matcher.group(4).split("\n").length <= MOST_LINES_OF_A_METHOD);
            Check.is("rule 11: parameters of " + name, true,
                    matcher.group(3).split(",").length <= MOST_PARAMETERS);
            boolean isConstructor = Character.isUpperCase(name.charAt(0));
            Check.is("rule 6: no throw in the constructor " + name, false,
                    isConstructor && matcher.group(4).contains("throw "));
        }
        Check.is("methods were found", true, count > 50);
    }

    /** Methods of one name, also constructors, are taken together; what is none of the program's own ends a chain. */
    private static void depth(String code) {
        Map<String, String> bodies = new TreeMap<>();
        Matcher matcher = METHOD.matcher(code);
        while (matcher.find()) {
            bodies.merge(matcher.group(2), matcher.group(4), String::concat);
        }
        for (String name : bodies.keySet()) {
            int deep = deepFrom(name, bodies, 1);
            Check.is("rule 11: " + name + " goes " + deep + " deep", true, deep <= DEEPEST);
        }
    }

    private static int deepFrom(String name, Map<String, String> bodies, int deep) {
        if (!bodies.containsKey(name) || deep > DEEPEST) {
            return deep;
        }
        int deepest = deep;
        Matcher call = Pattern.compile("\\b(?!if\\b|for\\b|switch\\b|return\\b)(\\w+)\\(").matcher(bodies.get(name));
        while (call.find()) {
            deepest = Math.max(deepest, deepFrom(call.group(1), bodies, deep + 1));
        }
        return deepest;
    }
}
