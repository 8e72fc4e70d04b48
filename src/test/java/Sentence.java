import java.io.IOException;
import java.nio.file.DirectoryStream;
import java.nio.file.Files;
import java.nio.file.Path;
import java.util.ArrayList;
import java.util.HashMap;
import java.util.List;
import java.util.Map;
import java.util.TreeSet;
import java.util.regex.Matcher;
import java.util.regex.Pattern;

/** A sentence of the document and its test, as a file of src/test/sentences tells them (README.md there says how). */
final class Sentence {
    private static final Pattern OF_ANOTHER_PLACE = Pattern.compile("\\[([^\\]]*)\\] (.*)");

    /** The file and the line, to find the test again. */
    final String place;
    /** The heading under which the test stands. */
    final String heading;
    /** The heading under which the document has the sentence. */
    final String home;
    final String quote;
    /** A sentence that names no boundary case has no test; it is listed so that none is forgotten. */
    final boolean tested;
    final List<String> steps = new ArrayList<>();
    final List<String> spoilings = new ArrayList<>();

    private Sentence(String place, String heading, String told, boolean tested) {
        Matcher m = OF_ANOTHER_PLACE.matcher(told);
        boolean elsewhere = m.matches();
        this.place = place;
        this.heading = heading;
        this.home = elsewhere ? m.group(1) : heading;
        this.quote = elsewhere ? m.group(2) : told;
        this.tested = tested;
    }

    String name() {
        return place + " [" + heading + "] " + quote;
    }

    static List<Sentence> readAll(Path directory) throws IOException {
        TreeSet<Path> files = new TreeSet<>();
        try (DirectoryStream<Path> stream = Files.newDirectoryStream(directory, "*.txt")) {
            stream.forEach(files::add);
        }
        List<Sentence> all = new ArrayList<>();
        Map<String, String> named = new HashMap<>();
        Map<String, List<String>> rows = new HashMap<>();
        for (Path file : files) {
            read(file, all, named, rows);
        }
        return all;
    }

    private static void read(Path file, List<Sentence> all, Map<String, String> named, Map<String, List<String>> rows)
            throws IOException {
        List<String> row = null;
        String heading = "";
        Sentence last = null;
        int number = 0;
        for (String line : Files.readAllLines(file)) {
            number++;
            String place = file.getFileName() + ":" + number;
            if (line.startsWith("== ")) {
                heading = line.substring(3);
            } else if (line.startsWith("-- ") || line.startsWith(".. ")) {
                String told = spelledOut(line.substring(3), named, place);
                last = new Sentence(place, heading, told, line.startsWith("-- "));
                all.add(last);
            } else if (line.startsWith("steps ")) {
                row = new ArrayList<>();
                rows.put(line.substring(6), row);
            } else if (line.startsWith("  ")) {
                row.add(spelledOut(line.substring(2), named, place));
            } else if (line.startsWith("use ")) {
                last.steps.addAll(rows.get(line.substring(4)));
            } else if (line.startsWith("let ")) {
                String[] parts = line.substring(4).split(" = ", 2);
                named.put(parts[0], spelledOut(parts[1], named, place));
            } else if (line.startsWith("spoil ")) {
                last.spoilings.add(line.substring(6));
            } else if (!line.isBlank() && !line.startsWith("#")) {
                last.steps.add(spelledOut(line, named, place));
            }
        }
    }

    private static String spelledOut(String line, Map<String, String> named, String place) {
        Matcher m = Pattern.compile("\\$([a-z]+)").matcher(line);
        StringBuilder whole = new StringBuilder();
        while (m.find()) {
            if (!named.containsKey(m.group(1))) {
                throw new IllegalStateException(place + ": there is no $" + m.group(1));
            }
            m.appendReplacement(whole, Matcher.quoteReplacement(named.get(m.group(1))));
        }
        return m.appendTail(whole).toString();
    }
}
