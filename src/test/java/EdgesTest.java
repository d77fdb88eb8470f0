import java.io.IOException;
import java.nio.file.Files;
import java.nio.file.Path;
import java.util.ArrayList;
import java.util.List;
import java.util.Map;
import java.util.TreeMap;
import java.util.stream.Stream;

/**
 * The boundary cases of the document, sentence by sentence: the runs in src/test/edges/*.txt.
 * A refused call is looked at with Looks: what later calls show is as it was before it.
 */
public final class EdgesTest {
    private static final Due DUE = new Due("EdgesTest");
    private static final Path RUNS = Path.of("src/test/edges");
    private static final Path DOCUMENT = Path.of("../shared/DOC.md");

    private final Quotes quotes;
    private final Map<String, List<String>> setups = new TreeMap<>();
    private List<String> setup = null;
    private EdgeRun run = null;

    private EdgesTest() throws IOException {
        quotes = new Quotes(Files.readString(DOCUMENT));
    }

    public static void main(String[] args) throws IOException {
        EdgesTest test = new EdgesTest();
        for (Path file : files()) {
            test.read(file);
        }
        DUE.is("promises of the document", test.quotes.promises(), 43);
        DUE.isText("what no run quotes", test.quotes.unquoted(), "");
        DUE.end();
    }

    private static List<Path> files() throws IOException {
        try (Stream<Path> all = Files.list(RUNS)) {
            return all.filter(file -> file.toString().endsWith(".txt")).sorted().toList();
        }
    }

    private void read(Path file) throws IOException {
        List<String> lines = Files.readAllLines(file);
        boolean isTitle = false;
        for (int i = 0; i < lines.size(); i++) {
            String line = lines.get(i).trim();
            if (line.isEmpty() || line.startsWith("#")) {
                continue;
            }
            String at = file.getFileName() + ":" + (i + 1);
            boolean wasTitle = isTitle;
            isTitle = line.startsWith("== ");
            if (isTitle) {
                title(at, line.substring(3), wasTitle);
            } else if (line.startsWith("-- ")) {
                setup = new ArrayList<>();
                setups.put(line.substring(3), setup);
            } else if (setup != null) {
                setup.add(line);
            } else {
                run.line(at, line);
            }
        }
    }

    /** A run may quote several sentences: its titles stand one behind the other. */
    private void title(String at, String title, boolean isNext) {
        int blank = title.indexOf(' ');
        DUE.isText(at + ": " + title, quotes.quote(title.substring(0, blank), title.substring(blank + 1)), "");
        setup = null;
        if (!isNext) {
            run = new EdgeRun(DUE, setups);
        }
    }
}
