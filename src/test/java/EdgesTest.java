import java.io.IOException;
import java.nio.charset.StandardCharsets;
import java.nio.file.Files;
import java.nio.file.Path;
import java.util.List;
import java.util.Set;
import java.util.stream.Collectors;
import java.util.stream.Stream;

/**
 * The document's sentences, each with runs of its own: src/test/edges quotes them one by one. It is tested, too, that
 * every quotation stands in the document, and that no sentence of the document is left out.
 */
public final class EdgesTest {
    private static final Path EDGES = Path.of("src/test/edges");
    private static final Path DOCUMENT = Path.of("../shared/DOC.md");
    private static final Set<String> SECTIONS_WITHOUT_RUNS = Set.of("WagerQuiz", "The public face", "Not promised");
    private static final Check CHECK = new Check();

    // Null where the document cannot be read; the runs are played all the same.
    private final Document document;
    private String section = "";
    private String sentence = "";
    private boolean hasRun = true;
    private EdgeRun run;

    private EdgesTest(Document document) {
        this.document = document;
    }

    public static void main(String[] args) throws IOException {
        if (!Files.isReadable(DOCUMENT)) {
            System.out.println("the quotations are not compared: there is no " + DOCUMENT);
        }
        EdgesTest test = new EdgesTest(Files.isReadable(DOCUMENT) ? Document.read(DOCUMENT) : null);
        List<Path> files;
        try (Stream<Path> all = Files.list(EDGES)) {
            files = all.filter(file -> file.toString().endsWith(".txt")).sorted().collect(Collectors.toList());
        }
        for (Path file : files) {
            test.play(Files.readAllLines(file, StandardCharsets.UTF_8));
        }
        if (test.document != null) {
            test.nothingIsLeftOut();
        }
        CHECK.finish();
    }

    private void play(List<String> lines) {
        for (String line : lines) {
            String words = line.trim();
            if (words.isEmpty() || words.startsWith("#")) {
                continue;
            }
            String rest = words.substring(1).trim();
            switch (words.charAt(0)) {
                case '=' -> section = rest;
                case '>' -> quote(rest, false);
                case '~' -> quote(rest, true);
                case '-' -> begin(rest);
                default -> run.line(words);
            }
        }
        endRun();
        CHECK.holds("the sentence has a run: " + sentence, hasRun);
    }

    private void quote(String words, boolean withoutRun) {
        endRun();
        CHECK.holds("the sentence has a run: " + sentence, hasRun);
        CHECK.holds("section '" + section + "' says: " + words, document == null || document.quote(section, words));
        sentence = words;
        hasRun = withoutRun;
    }

    private void begin(String title) {
        endRun();
        hasRun = true;
        run = new EdgeRun(section + " | " + sentence + " | " + title, CHECK);
    }

    private void endRun() {
        if (run != null) {
            run.end();
        }
        run = null;
    }

    private void nothingIsLeftOut() {
        for (String name : document.names()) {
            if (!SECTIONS_WITHOUT_RUNS.contains(name)) {
                String left = document.unquoted(name);
                CHECK.holds("section '" + name + "' has no test of: " + left, left.isEmpty());
            }
        }
    }
}
