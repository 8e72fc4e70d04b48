import java.io.IOException;
import java.lang.reflect.InvocationTargetException;
import java.net.URL;
import java.net.URLClassLoader;
import java.nio.file.Files;
import java.nio.file.Path;
import java.util.Comparator;
import java.util.List;
import java.util.regex.Matcher;
import java.util.regex.Pattern;
import java.util.stream.Stream;

/** The Java of README.md: it compiles, and each call answers what stands behind it. */
public final class ReadmeTests {
    private static final Pattern BLOCK = Pattern.compile("(?s)```java\n(.*?)```");
    /** A call, over one line or more, and its answer: the first word behind the two slashes. */
    private static final Pattern CALL =
            Pattern.compile("(?m)^((?:x\\.|load\\()(?:\"[^\"]*\"|[^;\"])*); +// (?:throws )?(-?\\w+)");

    public static void main(String[] args) throws Exception {
        Path directory = Files.createTempDirectory("readme");
        try {
            Path file = directory.resolve("Readme.java");
            Files.writeString(file, program(Files.readString(Path.of("README.md"))));
            int failed = new ProcessBuilder("javac", "-cp", System.getProperty("java.class.path"),
                    "-d", directory.toString(), file.toString()).inheritIO().start().waitFor();
            Checks.judge("the Java of README.md compiles", "0", Integer.toString(failed));
            if (failed == 0) {
                play(directory);
            }
        } finally {
            remove(directory);
        }
        Checks.finish("ReadmeTests");
    }

    private static void play(Path directory) throws Exception {
        try (URLClassLoader loader = new URLClassLoader(new URL[] {directory.toUri().toURL()})) {
            loader.loadClass("Readme").getDeclaredMethod("play").invoke(null);
        } catch (InvocationTargetException e) {
            Checks.judge("the Java of README.md", "no exception", e.getCause().toString());
        }
    }

    /** The methods of README.md as they are, the other Java in one method, with each answer compared. */
    private static String program(String readme) {
        StringBuilder methods = new StringBuilder();
        StringBuilder steps = new StringBuilder();
        Matcher block = BLOCK.matcher(readme);
        while (block.find()) {
            if (block.group(1).startsWith("static ")) {
                methods.append(block.group(1));
            } else {
                steps.append(compared(block.group(1)));
            }
        }
        return "public final class Readme {\n" + methods + "public static void play() {\n" + steps + "}\n}\n";
    }

    private static String compared(String block) {
        Matcher call = CALL.matcher(block);
        StringBuilder steps = new StringBuilder();
        int calls = 0;
        while (call.find()) {
            String told = call.group(1).replaceAll("\\s+", " ").replace("\\", "\\\\").replace("\"", "\\\"");
            String step = "ReadmeTests.due(\"" + told + "\", \"" + call.group(2) + "\", () -> " + call.group(1) + ");";
            call.appendReplacement(steps, Matcher.quoteReplacement(step + " //"));
            calls++;
        }
        call.appendTail(steps);
        long answers = block.lines().filter(line -> line.contains("; ") && line.contains(" // ")).count();
        Checks.judge("the calls that README.md answers", Long.toString(answers), Integer.toString(calls));
        return steps.toString();
    }

    /** A call of any answer. */
    public interface Call {
        Object go();
    }

    public static void due(String call, String want, Call what) {
        String got;
        try {
            got = String.valueOf(what.go());
        } catch (RuntimeException e) {
            got = e.getClass().getSimpleName();
        }
        Checks.judge("README.md: " + call, want, got);
    }

    private static void remove(Path directory) throws IOException {
        List<Path> all;
        try (Stream<Path> files = Files.walk(directory)) {
            all = files.sorted(Comparator.reverseOrder()).toList();
        }
        for (Path file : all) {
            Files.delete(file);
        }
    }
}
