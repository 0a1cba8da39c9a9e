import java.io.IOException;
import java.lang.reflect.Method;
import java.lang.reflect.Modifier;
import java.nio.file.Files;
import java.nio.file.Path;
import java.util.List;
import java.util.regex.Matcher;
import java.util.regex.Pattern;

/** The example of README.md answers what it says, and README.md names every call. */
public final class ReadmeTest {
    private static final Pattern TEXT = Pattern.compile("(?m)^String text = \"([^\"]*)\";");
    private static final Pattern ROW = Pattern.compile("(?m)^int \\w+ = x\\.(\\w+\\([^;]*\\)); +// (-?\\w+)\\b");

    private final Check check = new Check();
    private final String readme;

    private ReadmeTest(String readme) {
        this.readme = readme;
    }

    public static void main(String[] args) throws IOException {
        Path file = Path.of(System.getProperty("project", "."), "README.md");
        ReadmeTest test = new ReadmeTest(Files.readString(file));
        test.example();
        test.calls();
        test.check.end();
    }

    private void example() {
        Matcher text = TEXT.matcher(readme);
        if (!text.find()) throw new IllegalStateException("README.md has no text");
        OneADay x = new OneADay();
        Check.feedAll(x, text.group(1));
        Matcher row = ROW.matcher(readme);
        int rows = 0;
        while (row.find()) {
            List<Integer> answers = Runs.answers(x, row.group(1));
            check.due("README.md: " + row.group(1), answers.get(0), Runs.number(row.group(2)));
            rows++;
        }
        long told = readme.lines().filter(line -> line.startsWith("int ")).count();
        check.due("README.md: rows with an answer", rows, told);
        check.holds("README.md has an example", rows > 0);
    }

    private void calls() {
        for (Method m : OneADay.class.getDeclaredMethods()) {
            if (Modifier.isPublic(m.getModifiers())) {
                check.holds("README.md names " + m.getName(), readme.contains("`" + m.getName() + "`"));
            }
        }
    }
}
