import java.io.IOException;
import java.nio.file.Files;
import java.nio.file.Path;
import java.util.ArrayList;
import java.util.List;

/** The example of README.md: each call is made, and must stand there with the answer that it gives. */
public final class ReadmeTest {
    private static final Path README = Path.of("README.md");
    private static final String COMMENT = "//";

    /** The lines of its Java code, as call and comment; a line is taken away when its call has been made. */
    private final List<String> lines = new ArrayList<>();
    private final QuantifierOut out = new QuantifierOut();

    public static void main(String[] args) throws IOException {
        ReadmeTest test = new ReadmeTest();
        test.readExample();
        test.run();
        Checks.due("lines of the example that no call was made for", List.of(), () -> test.lines);
        Checks.finish();
    }

    private void readExample() throws IOException {
        boolean inCode = false;
        for (String line : Files.readAllLines(README)) {
            if (line.startsWith("```")) {
                inCode = line.equals("```java");
            } else if (inCode && !line.isBlank()) {
                lines.add(line);
            }
        }
    }

    private void run() {
        takeStart("QuantifierOut out = new QuantifierOut();");
        takeStart("int below = out.atom(2, 0, -1, 1);");
        int below = out.atom(2, 0, -1, 1);
        takeStart("int atLeast = out.atom(-1, 0, -1, 2);");
        int atLeast = out.atom(-1, 0, -1, 2);
        takeStart("int strip = out.both(below, atLeast);");
        int strip = out.both(below, atLeast);
        takeStart("int between = out.some(1, strip);");
        int between = out.some(1, strip);
        takeStart("int everywhere = out.every(0, between);");
        int everywhere = out.every(0, between);
        answers("out.count();", "5", out::count);
        answers("out.known(between, 2);", "2", () -> out.known(between, 2));
        answers("out.holds(strip, 0, 7);", "true", () -> out.holds(strip, 0, 7));
        answers("out.alike(strip, between);", "true", () -> out.alike(strip, between));
        answers("out.pieces(between);", "1", () -> out.pieces(between));
        answers("out.end(between, 0, 0, 0);", "2", () -> out.end(between, 0, 0, 0));
        answers("out.end(between, 0, 0, 1);", "-1", () -> out.end(between, 0, 0, 1));
        answers("out.end(between, 0, 1, 0);", "1", () -> out.end(between, 0, 1, 0));
        answers("out.end(between, 0, 1, 1);", "1", () -> out.end(between, 0, 1, 1));
        answers("out.end(between, 0, 1, 2);", "2", () -> out.end(between, 0, 1, 2));
        answers("out.decide(everywhere);", "false", () -> out.decide(everywhere));
        answers("out.decide(between);", "throws IllegalStateException", () -> out.decide(between));
    }

    private void takeStart(String code) {
        boolean found = !lines.isEmpty() && lines.get(0).startsWith(code);
        Checks.due("README.md has next: " + code, true, () -> found);
        if (found) {
            lines.remove(0);
        }
    }

    private void answers(String code, String written, Checks.Call call) {
        String comment = lines.isEmpty() ? "" : lines.get(0).substring(lines.get(0).indexOf(COMMENT) + 2).trim();
        takeStart(code);
        Checks.due("README.md beside " + code, written, () -> comment);
        Checks.due(code, asAnswer(written), call);
    }

    private static Object asAnswer(String written) {
        if (written.equals("true") || written.equals("false")) {
            return Boolean.valueOf(written);
        }
        return written.replace(' ', '.');
    }
}
