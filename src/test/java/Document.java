import java.io.IOException;
import java.nio.file.Files;
import java.nio.file.Path;

/** The document, so that a test can be shown to quote it, and to quote the part that it names. */
final class Document {
    private static final Path FILE = Path.of("..", "shared", "DOC.md");

    private final String text;

    Document() {
        text = read();
    }

    /** An empty text where there is none to read: the promises can be tested without it. */
    private static String read() {
        try {
            return Files.readString(FILE);
        } catch (IOException e) {
            System.out.println(FILE + " cannot be read: the tests' quotes are not compared with it");
            return "";
        }
    }

    boolean says(String heading, String words) {
        return text.isEmpty() || part(heading).contains(words);
    }

    private String part(String heading) {
        String line = "\n## " + heading + "\n";
        int from = text.indexOf(line);
        if (from < 0) {
            return "";
        }
        int to = text.indexOf("\n## ", from + line.length());
        return to < 0 ? text.substring(from) : text.substring(from, to);
    }
}
