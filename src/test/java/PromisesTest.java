import java.io.IOException;
import java.nio.file.DirectoryStream;
import java.nio.file.Files;
import java.nio.file.Path;
import java.util.ArrayList;
import java.util.List;
import java.util.regex.Matcher;
import java.util.regex.Pattern;

/** Each promise of ../shared/DOC.md is known by its name and number, and named by a test that .ci/run starts. */
public final class PromisesTest {
    private static final Path DOCUMENT = Path.of("../shared/DOC.md");
    private static final Path TESTS = Path.of("src/test/java");

    public static void main(String[] args) throws IOException {
        List<String> told = new ArrayList<>();
        Matcher heading = Pattern.compile("^## Promise (\\d+): (.+)$", Pattern.MULTILINE)
                .matcher(Files.readString(DOCUMENT));
        while (heading.find()) {
            told.add(heading.group(2));
            Check.is("the number of " + heading.group(2), told.size(), Integer.parseInt(heading.group(1)));
        }
        Check.is("the promises", told.toString(), Check.PROMISES.toString());
        String tests = tests();
        for (String promise : told) {
            Check.is("a test names " + promise, true, tests.contains("Check.promise(\"" + promise + "\");"));
        }
        Check.close();
    }

    private static String tests() throws IOException {
        StringBuilder text = new StringBuilder();
        try (DirectoryStream<Path> files = Files.newDirectoryStream(TESTS, "*Test.java")) {
            for (Path file : files) {
                text.append(Files.readString(file));
            }
        }
        return text.toString();
    }
}
