import java.io.IOException;
import java.nio.file.Files;
import java.nio.file.Path;
import java.util.Iterator;
import java.util.List;

/** The example of README.md: each call stands there, and answers what stands behind it. */
final class ReadmeTest {
    private static final String OPENING = "GraveSegments store = new GraveSegments(4);";

    private final Checks checks;
    private final Iterator<String> lines;

    private ReadmeTest(Checks checks, List<String> lines) {
        this.checks = checks;
        this.lines = lines.iterator();
    }

    public static void main(String[] args) throws IOException {
        Checks checks = Checks.of("README.md");
        new ReadmeTest(checks, example()).run();
        checks.end();
    }

    private static List<String> example() throws IOException {
        List<String> all = Files.readAllLines(Path.of("README.md"));
        int start = all.indexOf("```java") + 1;
        return all.subList(start, start + all.subList(start, all.size()).indexOf("```"));
    }

    private void run() {
        GraveSegments store = new GraveSegments(4);
        checks.due("the example opens with " + OPENING, lines.next().startsWith(OPENING) ? 1 : 0, 1);
        told("store.feed(0x4869, 2);", store.feed(0x4869, 2));
        told("store.put(7);", store.put(7));
        int then = store.snapshot();
        told("int then = store.snapshot();", then);
        told("store.drop(7);", store.drop(7));
        told("store.length(GraveSegments.NONE, 7);", store.length(GraveSegments.NONE, 7));
        told("store.length(then, 7);", store.length(then, 7));
        told("store.find(then, 7, 0);", store.find(then, 7, 0));
        told("store.sync();", store.sync());
        told("store.release(then);", store.release(then));
        told("store.put(8);", store.put(8));
        told("store.crash(10);", store.crash(10));
        told("store.put(9);", store.put(9));
        told("store.reopen();", store.reopen());
        told("store.badAt();", store.badAt());
        told("store.used(0);", store.used(0));
        told("store.living(0);", store.living(0));
        told("store.clean(1, 2, GraveSegments.NONE);", store.clean(1, 2, GraveSegments.NONE));
        told("store.used(1);", store.used(1));
        told("store.living(1);", store.living(1));
        checks.due("the example ends there", lines.hasNext() ? 1 : 0, 0);
    }

    private void told(String call, int answer) {
        String line = lines.hasNext() ? lines.next() : "";
        boolean isTold = line.startsWith(call) && line.contains(" // " + answer + ": ");
        checks.due(call + " with the answer " + answer + " is told by: " + line, isTold ? 1 : 0, 1);
    }
}
