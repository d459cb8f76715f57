import java.io.IOException;
import java.nio.file.Files;
import java.nio.file.Path;
import java.util.regex.Matcher;
import java.util.regex.Pattern;

/** The run that README.md shows: each of its calls answers what stands behind it there. */
public final class ReadmeTest {
    private static final Pattern TEXT = Pattern.compile("x\\.(\\w+)\\(feed\\(x, \"([^\"]*)\"\\)\\); // (-?\\d+).*");
    private static final Pattern CALL = Pattern.compile("x\\.(\\w+\\([^\"()]*\\)); // (-?\\d+|\\w+Exception).*");
    private static final Pattern SIGNS = Pattern.compile(".*signs: (.*)");
    private static final Pattern PLACE = Pattern.compile("x\\.fault\\(\\); // (\\d+).*");

    private ReadmeTest() { }

    public static void main(String[] args) throws IOException {
        // .ci/run starts tests at the top of the project.
        String[] lines = Files.readString(Path.of("README.md")).split("\n");
        Run run = new Run("README.md");
        int calls = 0;
        for (int i = 0; i < lines.length; i++) {
            if (!lines[i].startsWith("x.")) {
                continue;
            }
            calls++;
            if (!check(run, lines[i], lines[i + 1])) {
                Run.wrong++;
                System.out.println("README.md: not understood: " + lines[i]);
            }
        }
        if (calls < 20) {
            Run.wrong++;
            System.out.println("README.md: only " + calls + " calls were found");
        }
        Run.end("ReadmeTest");
    }

    private static boolean check(Run run, String line, String behind) {
        Matcher text = TEXT.matcher(line);
        if (text.matches()) {
            Matcher place = PLACE.matcher(behind);
            int fault = place.matches() ? Integer.parseInt(place.group(1)) : -1;
            run.fails(text.group(1), text.group(2), Integer.parseInt(text.group(3)), fault);
            return true;
        }
        Matcher call = CALL.matcher(line);
        if (!call.matches()) {
            return false;
        }
        run.due(call.group(1), call.group(2));
        Matcher signs = SIGNS.matcher(line);
        if (signs.matches()) {
            run.note(signs.group(1));
        }
        return true;
    }
}
