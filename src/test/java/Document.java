import java.io.IOException;
import java.io.UncheckedIOException;
import java.nio.file.Files;
import java.nio.file.Path;

/** The words of the document, so that a test can be held to the sentence that it is named by. */
final class Document {
    private static final Path PATH = Path.of(System.getProperty("document", "../shared/DOC.md"));

    private Document() {
    }

    /** What stands below the heading of a promise, without the face of its method. */
    static String promise(int number) {
        String text = below("\n## Promise " + number + ": ");
        return text.substring(text.indexOf("`: ") + 3);
    }

    /** The paragraph of the Terms that opens with these words. */
    static String term(String opening) {
        for (String paragraph : below("\n## Terms").split("\n\n")) {
            if (paragraph.startsWith(opening)) {
                return inOneLine(paragraph);
            }
        }
        throw new IllegalArgumentException("no paragraph of the Terms opens with: " + opening);
    }

    static String face() {
        return below("\n## The public face");
    }

    static String inOneLine(String text) {
        return text.replaceAll("\\s+", " ").strip();
    }

    private static String below(String heading) {
        String all = read();
        int start = all.indexOf(heading);
        if (start < 0) {
            throw new IllegalArgumentException("no such heading in the document: " + heading);
        }
        int body = all.indexOf('\n', start + 1);
        int end = all.indexOf("\n## ", body);
        return all.substring(body, end < 0 ? all.length() : end).strip();
    }

    private static String read() {
        try {
            return Files.readString(PATH);
        } catch (IOException e) {
            throw new UncheckedIOException(e);
        }
    }
}
