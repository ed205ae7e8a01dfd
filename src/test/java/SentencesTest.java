import java.io.IOException;
import java.nio.file.Files;
import java.nio.file.Path;
import java.util.ArrayList;
import java.util.List;
import java.util.regex.Matcher;
import java.util.regex.Pattern;

/** Each word of the terms and of the promises stands in a sentence that a test of boundary cases names. */
public final class SentencesTest {
    private static final Path TESTS = Path.of("src/test/java");
    private static final Pattern NAMED = Pattern.compile("Edge\\.sentence\\((\\d+), \"([^\"]*)\"\\)");

    private static final class Sentence {
        final int promise;
        final String words;

        Sentence(int promise, String words) {
            this.promise = promise;
            this.words = words;
        }
    }

    public static void main(String[] args) throws IOException {
        List<Sentence> named = named();
        for (int promise = 0; promise <= Document.PROMISES; promise++) {
            Due.is((promise == 0 ? "terms" : "promise " + promise) + ": words that no test names", left(promise, named), 0);
        }
        Due.end();
    }

    private static List<Sentence> named() throws IOException {
        List<Sentence> named = new ArrayList<>();
        try (var files = Files.newDirectoryStream(TESTS, "Edges*Test.java")) {
            for (Path file : files) {
                Matcher m = NAMED.matcher(Files.readString(file));
                while (m.find()) {
                    named.add(new Sentence(Integer.parseInt(m.group(1)), m.group(2)));
                }
            }
        }
        return named;
    }

    /** A promise's words stand behind its call; the terms, from STEPS to the words about the interface. */
    private static String words(int promise) {
        String part = Document.part(promise);
        if (promise == 0) {
            String terms = part.substring(part.indexOf("STEPS are 0"), part.indexOf("Ahead of the calls"));
            return terms.replaceAll("(?m)^==== \\d |^```.*$", "");
        }
        return part.substring(part.indexOf("`: ") + 3);
    }

    private static int left(int promise, List<Sentence> named) {
        String words = words(promise);
        boolean[] has = new boolean[words.length()];
        for (Sentence s : named) {
            for (int at = words.indexOf(s.words); at >= 0 && s.promise == promise; at = words.indexOf(s.words, at + 1)) {
                for (int i = at; i < at + s.words.length(); i++) {
                    has[i] = true;
                }
            }
        }
        StringBuilder left = new StringBuilder();
        for (int i = 0; i < has.length; i++) {
            left.append(has[i] ? ' ' : words.charAt(i));
        }
        String gaps = left.toString().trim().replaceAll("\\s+", " ");
        if (!gaps.isEmpty()) System.out.println(promise + " lacks: " + gaps);
        return gaps.isEmpty() ? 0 : gaps.split(" ").length;
    }
}
