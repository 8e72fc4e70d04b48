import java.io.IOException;
import java.lang.reflect.Constructor;
import java.lang.reflect.Field;
import java.lang.reflect.Method;
import java.lang.reflect.Modifier;
import java.nio.file.Files;
import java.nio.file.Path;
import java.util.ArrayList;
import java.util.Arrays;
import java.util.List;
import java.util.TreeSet;
import java.util.regex.Matcher;
import java.util.regex.Pattern;

/** The face of the class against that of the document, and what of ../shared/LANGUAGE.md a line can show. */
public final class LanguageTests {
    private static final TreeSet<String> FACE_NAMES = new TreeSet<>();

    public static void main(String[] args) throws IOException {
        String main = args.length > 0 ? args[0] : "src/main/java/CrossedModules.java";
        String doc = Files.readString(Path.of("../shared/DOC.md"));
        face(doc.substring(doc.indexOf("```java"), doc.indexOf("## Terms")));
        List<Class<?>> classes = new ArrayList<>(List.of(CrossedModules.class));
        classes.addAll(Arrays.asList(CrossedModules.class.getDeclaredClasses()));
        Checks.judge("11 at most some twelve classes", "true", String.valueOf(classes.size() <= 12));
        for (Class<?> one : classes) {
            members(one);
        }
        source(Files.readString(Path.of(main)));
        Checks.finish("LanguageTests");
    }

    private static String simple(Class<?>[] types) {
        List<String> names = new ArrayList<>();
        for (Class<?> type : types) {
            names.add(type.getSimpleName());
        }
        return String.join(", ", names);
    }

    private static String told(Method m) {
        String exceptions = simple(m.getExceptionTypes());
        return Modifier.toString(m.getModifiers()) + " " + m.getReturnType().getSimpleName() + " " + m.getName() + "("
                + simple(m.getParameterTypes()) + ")" + (exceptions.isEmpty() ? "" : " throws " + exceptions);
    }

    private static void face(String block) {
        TreeSet<String> due = new TreeSet<>();
        Matcher m = Pattern.compile("(public \\w+ (\\w+)\\()([^)]*)\\)([^;]*);").matcher(block);
        while (m.find()) {
            due.add(m.group(1) + m.group(3).replaceAll("(\\w+) \\w+", "$1") + ")" + m.group(4));
            FACE_NAMES.add(m.group(2));
        }
        TreeSet<String> got = new TreeSet<>();
        for (Method method : CrossedModules.class.getDeclaredMethods()) {
            if (!Modifier.isPrivate(method.getModifiers()) && !method.isSynthetic()) {
                got.add(told(method));
            }
        }
        Checks.judge("1 the methods of the face", due.toString(), got.toString());
        Checks.judge("1 there are some", "60", String.valueOf(due.size()));
        TreeSet<String> fields = new TreeSet<>();
        for (Field field : CrossedModules.class.getDeclaredFields()) {
            if (!Modifier.isPrivate(field.getModifiers())) {
                fields.add(field.toString());
            }
        }
        Checks.judge("1 the constants", "[public static final int CrossedModules.NONE]", fields.toString());
        Constructor<?>[] constructors = CrossedModules.class.getDeclaredConstructors();
        Checks.judge("1 the constructor", "[public CrossedModules()]", Arrays.toString(constructors));
        Checks.judge("1 the class", "public final", Modifier.toString(CrossedModules.class.getModifiers()));
    }

    private static void members(Class<?> one) {
        boolean outer = one == CrossedModules.class;
        int fields = 0;
        for (Field field : one.getDeclaredFields()) {
            boolean fixed = Modifier.isStatic(field.getModifiers());
            fields += fixed ? 0 : 1;
            boolean constant = Modifier.isFinal(field.getModifiers()) && field.getType().isPrimitive();
            Checks.judge("5 " + field, "true", String.valueOf(!fixed || constant));
        }
        Checks.judge("11 fields of " + one, "true", String.valueOf(fields <= 20));
        for (Method method : one.getDeclaredMethods()) {
            boolean ofFace = outer && Modifier.isPublic(method.getModifiers());
            Checks.judge("1 the name of " + method, "true",
                    String.valueOf(ofFace || !FACE_NAMES.contains(method.getName())));
            Checks.judge("11 " + method, "true", String.valueOf(method.getParameterCount() <= 7));
        }
        int modifiers = one.getModifiers();
        Checks.judge("2 " + one, "true", String.valueOf(outer
                || Modifier.isStatic(modifiers) && !Modifier.isPublic(modifiers) && !Modifier.isProtected(modifiers)));
    }

    private static void source(String text) {
        String bare = text.replaceAll("(?s)/\\*.*?\\*/", " ").replaceAll("//[^\n]*", " ")
                .replaceAll("\"[^\"\n]*\"", "\"\"").replaceAll("'.'", "' '");
        String[] leftOut = {"->", "::", "\\bfinally\\b", "\\bsynchronized\\b", "\\bassert\\b", "\\bcatch\\b", "\\btry\\b",
            "\\bnative\\b", "\\bstrictfp\\b", "\\bvolatile\\b", "\\btransient\\b", "\\bThread\\b", "\\bRandom\\b",
            "System\\.(?!arraycopy)", "Exact\\(", "\\bpackage\\b", "\\bprotected\\b", "\\bstatic\\s*\\{", "\\bvar\\b",
            "\\bObject\\b", "hashCode", "toString", "@", "\"\"\\s*\\+", "\\+\\s*\"\"", "instanceof", "\\bnull\\b",
            "while \\(true\\)", "for \\(;;", "printStackTrace", "getMessage", "\\bNaN\\b", "\\bdouble\\b", "\\bfloat\\b"};
        for (String pattern : leftOut) {
            Matcher m = Pattern.compile(pattern).matcher(bare);
            Checks.judge("the source has no " + pattern, "nothing", m.find() ? m.group() : "nothing");
        }
        Matcher imports = Pattern.compile("import ([\\w.]+);").matcher(bare);
        while (imports.find()) {
            Checks.judge("4 import", "java.util.Arrays", imports.group(1));
        }
        Matcher thrown = Pattern.compile("throw ([^;]*);").matcher(bare);
        while (thrown.find()) {
            Checks.judge("6 throw " + thrown.group(1), "true", String.valueOf(thrown.group(1).matches(
                    "new (IllegalState|IllegalArgument|IndexOutOfBounds)Exception\\(\"\"\\)")));
        }
        Matcher loops = Pattern.compile("\\b(for|while) \\(.*\\{").matcher(bare);
        while (loops.find()) {
            Checks.judge("9 the bound of " + loops.group(), "true",
                    String.valueOf(loops.group().matches(".*( [<>]=? | : ).*")));
        }
        for (int i = 0; i < text.length(); i++) {
            if (text.charAt(i) > 126) {
                Checks.judge("a sign beyond 126 at " + i, "none", String.valueOf((int) text.charAt(i)));
            }
        }
        lengths(text.split("\n"));
    }

    /** A method begins at a line that ends with a brace and ends at the next brace that stands as far in. */
    private static void lengths(String[] lines) {
        for (int i = 0; i < lines.length; i++) {
            Matcher m = Pattern.compile("^( {4}| {8})\\S.*\\).*\\{$").matcher(lines[i]);
            if (!m.find()) {
                continue;
            }
            int end = i;
            while (end < lines.length && !lines[end].equals(m.group(1) + "}")) {
                end++;
            }
            if (end - i > 60) {
                Checks.judge("11 the length of " + lines[i], "at most 60", String.valueOf(end - i));
            }
        }
    }
}
