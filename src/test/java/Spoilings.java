import java.io.ByteArrayOutputStream;
import java.io.IOException;
import java.io.OutputStream;
import java.net.URI;
import java.nio.file.Files;
import java.nio.file.Path;
import java.util.ArrayList;
import java.util.Collections;
import java.util.HashMap;
import java.util.List;
import java.util.Map;
import java.util.TreeSet;
import java.util.regex.Matcher;
import java.util.regex.Pattern;
import javax.tools.FileObject;
import javax.tools.ForwardingJavaFileManager;
import javax.tools.JavaCompiler;
import javax.tools.JavaFileManager;
import javax.tools.JavaFileObject;
import javax.tools.SimpleJavaFileObject;
import javax.tools.ToolProvider;

/** Breaks the class as the spoil lines of src/test/sentences say; the sentence's own test must fail each time. */
public final class Spoilings {
    private static final JavaCompiler COMPILER = ToolProvider.getSystemJavaCompiler();

    public static void main(String[] args) throws IOException {
        String source = Files.readString(Path.of("src/main/java/CrossedModules.java"));
        List<Sentence> sentences = Sentence.readAll(Path.of("src/test/sentences"));
        TreeSet<String> wrong = new TreeSet<>();
        int[] tried = {0};
        sentences.parallelStream().filter(s -> s.tested).forEach(sentence -> {
            List<String> told = new ArrayList<>();
            if (sentence.spoilings.isEmpty()) {
                told.add(sentence.name() + ": no spoiling");
            }
            for (String spoiling : sentence.spoilings) {
                String fault = tried(source, sentence, spoiling);
                if (!fault.isEmpty()) {
                    told.add(sentence.name() + "\n    " + spoiling + ": " + fault);
                }
            }
            synchronized (wrong) {
                wrong.addAll(told);
                tried[0] += sentence.spoilings.size();
            }
        });
        wrong.forEach(System.out::println);
        System.out.println("Spoilings: " + tried[0] + " tried, " + wrong.size() + " wrong");
        System.exit(wrong.isEmpty() ? 0 : 1);
    }

    private static String tried(String source, Sentence sentence, String spoiling) {
        try {
            String spoiled = source;
            for (String one : spoiling.split(" && spoil ")) {
                spoiled = spoiled(spoiled, one);
            }
            Player player = new Player(compiled(spoiled));
            player.play(sentence.steps);
            return player.faults.isEmpty() ? "slips through" : "";
        } catch (IllegalArgumentException e) {
            return e.getMessage();
        }
    }

    /** METHOD: OLD => NEW, the old words being once in the method. */
    private static String spoiled(String source, String spoiling) {
        Matcher m = Pattern.compile("(\\w+\\.)?(\\w+): (.*) => ?(.*)").matcher(spoiling);
        if (!m.matches()) {
            throw new IllegalArgumentException("not METHOD: OLD => NEW");
        }
        int from = m.group(1) == null ? 0 : source.indexOf("class " + m.group(1).replace(".", " {"));
        Matcher head = Pattern.compile("(?m)^( {4}| {8})(?! )[^;\n]*\\b" + m.group(2) + "\\([^;]*?\\{\n").matcher(source);
        if (from < 0 || !head.find(from)) {
            throw new IllegalArgumentException("there is no such method");
        }
        int end = source.indexOf("\n" + head.group(1) + "}\n", head.start());
        String method = source.substring(head.start(), end);
        int at = method.indexOf(m.group(3));
        if (at < 0 || method.indexOf(m.group(3), at + 1) >= 0) {
            throw new IllegalArgumentException(at < 0 ? "the old words are not there" : "the old words are there twice");
        }
        String changed = method.substring(0, at) + m.group(4) + method.substring(at + m.group(3).length());
        return source.substring(0, head.start()) + changed + source.substring(end);
    }

    private static Class<?> compiled(String source) {
        Map<String, ByteArrayOutputStream> made = Collections.synchronizedMap(new HashMap<>());
        JavaFileObject file = new SimpleJavaFileObject(URI.create("string:///CrossedModules.java"), JavaFileObject.Kind.SOURCE) {
            @Override
            public CharSequence getCharContent(boolean ignore) {
                return source;
            }
        };
        JavaFileManager manager = new ForwardingJavaFileManager<JavaFileManager>(
                COMPILER.getStandardFileManager(null, null, null)) {
            @Override
            public JavaFileObject getJavaFileForOutput(Location l, String name, JavaFileObject.Kind kind, FileObject sibling) {
                return new SimpleJavaFileObject(URI.create("mem:///" + name + ".class"), kind) {
                    @Override
                    public OutputStream openOutputStream() {
                        ByteArrayOutputStream bytes = new ByteArrayOutputStream();
                        made.put(name, bytes);
                        return bytes;
                    }
                };
            }
        };
        StringBuilder told = new StringBuilder();
        boolean good = COMPILER.getTask(null, manager, d -> told.append(d.getMessage(null)).append("; "), null, null,
                List.of(file)).call();
        if (!good) {
            throw new IllegalArgumentException("does not compile: " + told);
        }
        ClassLoader loader = new ClassLoader(ClassLoader.getPlatformClassLoader()) {
            @Override
            protected Class<?> findClass(String name) throws ClassNotFoundException {
                if (!made.containsKey(name)) {
                    throw new ClassNotFoundException(name);
                }
                byte[] bytes = made.get(name).toByteArray();
                return defineClass(name, bytes, 0, bytes.length);
            }
        };
        try {
            return loader.loadClass("CrossedModules");
        } catch (ClassNotFoundException e) {
            throw new IllegalArgumentException(e);
        }
    }
}
