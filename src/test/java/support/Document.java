import java.io.IOException;
import java.nio.file.Files;
import java.nio.file.Path;
import java.util.ArrayList;
import java.util.List;

/** The document by its parts: 0 is all ahead of promise 1 (the face, the terms), 1 .. 26 are the promises. */
final class Document {
    static final int PROMISES = 26;
    private static final Path FILE = Path.of("../shared/DOC.md");
    private static final List<String> PARTS = parts();

    private Document() {
    }

    private static List<String> parts() {
        List<String> parts = new ArrayList<>();
        try {
            String rest = Files.readString(FILE);
            for (int p = 1; p <= PROMISES; p++) {
                int at = rest.indexOf("\n## Promise " + p + ":");
                if (at < 0) throw new IllegalStateException("no promise " + p + " in " + FILE);
                parts.add(rest.substring(0, at));
                rest = rest.substring(at + 1);
            }
            int end = rest.indexOf("\n## ");
            parts.add(end < 0 ? rest : rest.substring(0, end));
        } catch (IOException e) {
            throw new IllegalStateException(FILE + " can't be read", e);
        }
        return parts;
    }

    static String part(int promise) {
        return PARTS.get(promise);
    }

    static boolean says(int promise, String words) {
        return PARTS.get(promise).contains(words);
    }
}
