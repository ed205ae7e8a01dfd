import java.io.IOException;
import java.lang.reflect.Method;
import java.lang.reflect.Modifier;
import java.net.URL;
import java.net.URLClassLoader;
import java.nio.file.Files;
import java.nio.file.Path;
import java.util.Set;
import java.util.TreeSet;
import java.util.regex.Matcher;
import java.util.regex.Pattern;
import javax.tools.ToolProvider;

/** README.md's code compiles, each call in it answers what stands behind it, and all that the face has is told. */
public final class ReadmeTest {
    private static final Pattern BLOCK = Pattern.compile("(?s)```java\n(.*?)```");
    private static final Pattern CALL = Pattern.compile("(?m)^(x\\.(\\w+)\\(.*?\\)); *// (-?\\d+)(?=:|$).*$");
    private static final Pattern LINE = Pattern.compile("(?m)^x\\.");

    public static void main(String[] args) throws Exception {
        String readme = Files.readString(Path.of("README.md"));
        tellsTheFace(readme);
        tellsHowToTest(readme);
        run(program(readme));
        Due.end();
    }

    private static void tellsTheFace(String readme) {
        Set<String> called = new TreeSet<>();
        Matcher calls = CALL.matcher(readme);
        while (calls.find()) {
            called.add(calls.group(2));
        }
        for (Method method : NobodyBreathes.class.getDeclaredMethods()) {
            if (Modifier.isPublic(method.getModifiers())) {
                Due.holds("README.md has a call of " + method.getName(), called.contains(method.getName()));
            }
        }
        Due.is("calls without an answer", LINE.matcher(readme).results().count() - CALL.matcher(readme).results().count(), 0);
        Due.holds("README.md makes an object", readme.contains("new NobodyBreathes()"));
        for (String refusal : new String[] {"`BAD` -2", "`STATE` -3", "`FULL` -4", "| -11 |", "| -12 |", "| -13 |", "| -14 |",
            "`NO` " + NobodyBreathes.NO, "`NONE` -1"}) {
            Due.holds("README.md tells of " + refusal, readme.contains(refusal));
        }
    }

    private static void tellsHowToTest(String readme) throws IOException {
        Due.holds("README.md tells of .ci/run", readme.contains(".ci/run"));
        try (var files = Files.newDirectoryStream(Path.of("src/test/java"), "*Test.java")) {
            for (Path file : files) {
                String name = file.getFileName().toString().replace(".java", "");
                Due.holds("README.md tells of " + name, readme.contains(name));
            }
        }
    }

    /** Functions stand beside main, all else in it; each call is held against its answer. */
    private static String program(String readme) {
        StringBuilder functions = new StringBuilder();
        StringBuilder lines = new StringBuilder();
        Matcher blocks = BLOCK.matcher(readme);
        while (blocks.find()) {
            String code = blocks.group(1);
            Matcher behind = CALL.matcher(code);
            (code.startsWith("static ") ? functions : lines).append(behind.replaceAll("answers(\"$1\", $1, $3L);"));
        }
        return "public class Shown {\n" + functions + "static String wrong = \"\";\n"
                + "static void answers(String call, long got, long due) {\n"
                + "if (got != due) wrong += call + \" answered \" + got + \", README.md says \" + due + \"\\n\";\n}\n"
                + "public static String told() {\n" + lines + "return wrong;\n}\n}\n";
    }

    private static void run(String program) throws Exception {
        Path folder = Files.createTempDirectory("readme");
        Path file = folder.resolve("Shown.java");
        Files.writeString(file, program);
        String path = System.getProperty("java.class.path");
        int failed = ToolProvider.getSystemJavaCompiler().run(null, null, null, "-cp", path, "-d", folder.toString(), file.toString());
        Due.is("README.md's code compiles", failed, 0);
        if (failed == 0) {
            try (URLClassLoader loader = new URLClassLoader(new URL[] {folder.toUri().toURL()})) {
                String wrong = (String) loader.loadClass("Shown").getMethod("told").invoke(null);
                System.out.print(wrong);
                Due.holds("README.md's answers are as due", wrong.isEmpty());
            }
        }
        try (var left = Files.newDirectoryStream(folder)) {
            for (Path each : left) {
                Files.delete(each);
            }
        }
        Files.delete(folder);
    }
}
