import java.io.IOException;
import java.nio.file.Files;
import java.nio.file.Path;
import java.util.ArrayList;
import java.util.HashMap;
import java.util.LinkedHashMap;
import java.util.List;
import java.util.Map;
import java.util.stream.Collectors;
import java.util.stream.Stream;

/** The runs of src/test/edges: for each edge that the document names, calls with the answers that are due. */
public final class EdgesTest {
    private static final Path FOLDER = Path.of("src/test/edges");
    private static final int PROMISES = 33;

    private final Map<String, List<String>> states = new HashMap<>();
    private final Map<String, List<String>> runs = new LinkedHashMap<>();

    public static void main(String[] args) throws IOException {
        EdgesTest test = new EdgesTest();
        List<Path> files;
        try (Stream<Path> all = Files.list(FOLDER)) {
            files = all.filter(file -> file.toString().endsWith(".txt")).sorted().collect(Collectors.toList());
        }
        for (Path file : files) {
            test.read(file);
        }
        Due due = new Due("edges");
        test.eachPromiseHasRuns(due);
        test.runs.forEach((title, rows) -> new EdgeRun(due, test.states, title).play(rows));
        System.out.println("edges: " + test.runs.size() + " runs");
        due.end();
    }

    private void read(Path file) throws IOException {
        String name = file.getFileName().toString().replace(".txt", "");
        List<String> rows = new ArrayList<>();
        for (String line : Files.readAllLines(file)) {
            String row = line.trim();
            if (row.startsWith("state ")) {
                rows = begin(states, row.substring(6));
            } else if (row.startsWith("run ")) {
                rows = begin(runs, name + ", " + row.substring(4));
            } else if (!row.isEmpty() && !row.startsWith("#")) {
                rows.add(row);
            }
        }
    }

    private static List<String> begin(Map<String, List<String>> blocks, String title) {
        List<String> rows = new ArrayList<>();
        if (blocks.put(title, rows) != null) {
            throw new IllegalStateException("two of one name: " + title);
        }
        return rows;
    }

    private void eachPromiseHasRuns(Due due) {
        for (int promise = 1; promise <= PROMISES; promise++) {
            String start = String.format("%02d-", promise);
            due.same("runs of promise " + promise, runs.keySet().stream().anyMatch(run -> run.startsWith(start)), true);
        }
    }
}
