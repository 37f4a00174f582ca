import java.io.IOException;
import java.nio.file.Files;
import java.nio.file.Path;
import java.util.List;
import java.util.TreeSet;
import java.util.regex.Matcher;
import java.util.regex.Pattern;

/** The runs that README.md shows: every call there answers what stands behind it. */
public final class ReadmeTest {
    private static final String NEW_OBJECT = "PlaceTests p = new PlaceTests();";
    private static final Pattern CALL = Pattern.compile("p\\.((\\w+)\\([^()]*\\));(?: +// (.*))?");
    private static final Pattern NUMBER = Pattern.compile("(-?\\d+)(?:: .*)?");
    private static final Pattern THROWS = Pattern.compile("throws (\\w+)(?:: .*)?");
    private static final Checks CHECKS = new Checks();

    public static void main(String[] args) throws IOException {
        List<String> lines = Files.readAllLines(Path.of("README.md"));
        TreeSet<String> shown = new TreeSet<>();
        boolean isJava = false;
        Run run = null;
        for (String line : lines) {
            if (line.startsWith("```")) {
                isJava = line.equals("```java");
                run = null;
            } else if (isJava && line.equals(NEW_OBJECT)) {
                run = new Run(CHECKS);
            } else if (isJava) {
                shown.add(name(run, line));
            }
        }
        CHECKS.dueText("the calls that README.md shows", shown.toString(),
                "[at, blend, clear, constant, depth, draw, drawn, frame, logic, mask, scissors,"
                        + " stencil, sum]");
        CHECKS.end();
    }

    private static String name(Run run, String line) {
        Matcher call = CALL.matcher(line);
        if (run == null || !call.matches()) {
            return "no call: " + line;
        }
        run.due(call.group(1), dueBy(call.group(3)));
        return call.group(2);
    }

    private static String dueBy(String comment) {
        if (comment == null) {
            return Run.NOTHING;
        }
        Matcher number = NUMBER.matcher(comment);
        if (number.matches()) {
            return number.group(1);
        }
        Matcher exception = THROWS.matcher(comment);
        return exception.matches() ? "throws." + exception.group(1) : Run.NOTHING;
    }
}
