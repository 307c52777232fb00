import java.io.IOException;
import java.nio.charset.StandardCharsets;
import java.nio.file.Files;
import java.nio.file.Path;
import java.util.regex.Matcher;
import java.util.regex.Pattern;

/** README.md's examples: each line of their code answers what its comment tells. */
public final class ReadmeTest {
    private static final Pattern ROW = Pattern.compile("quiz\\.(.+\\)); +// (-?\\w+)(:.*)?");
    private static final String NEW_QUIZ = "WagerQuiz quiz = new WagerQuiz();";
    private static final Check CHECK = new Check();

    private WagerQuiz quiz;

    public static void main(String[] args) throws IOException {
        ReadmeTest test = new ReadmeTest();
        boolean inExample = false;
        for (String line : Files.readAllLines(Path.of("README.md"), StandardCharsets.UTF_8)) {
            if (line.startsWith("```")) {
                inExample = line.equals("```java");
            } else if (inExample && !line.isEmpty()) {
                test.play(line);
            }
        }
        CHECK.finish();
    }

    private void play(String line) {
        if (line.equals(NEW_QUIZ)) {
            quiz = new WagerQuiz();
            return;
        }
        Matcher row = ROW.matcher(line);
        boolean isRow = row.matches();
        CHECK.holds("a call with its answer, on a quiz that was made: " + line, isRow && quiz != null);
        if (isRow && quiz != null) {
            Integer constant = EdgeRun.CONSTANTS.get(row.group(2));
            int due = constant == null ? Integer.parseInt(row.group(2)) : constant;
            CHECK.due("README.md: " + line, Call.of(row.group(1)).on(quiz), due);
        }
    }
}
