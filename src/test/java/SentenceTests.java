import java.io.IOException;
import java.nio.file.Files;
import java.nio.file.Path;
import java.util.Arrays;
import java.util.LinkedHashMap;
import java.util.List;
import java.util.Map;
import java.util.regex.Matcher;
import java.util.regex.Pattern;

/** The tests of src/test/sentences: each sentence of the document that names a boundary case, alone. */
public final class SentenceTests {
    private static final Pattern HEADING = Pattern.compile("^(?:## (.*)|(\\d\\. [A-Z].*)|(The constants:).*)$");

    public static void main(String[] args) throws IOException {
        List<Sentence> sentences = Sentence.readAll(Path.of("src/test/sentences"));
        Map<String, String> document = document(Files.readString(Path.of("../shared/DOC.md")));
        int tests = 0;
        for (Sentence one : sentences) {
            String text = document.getOrDefault(one.home, "");
            Checks.judge(one.name(), "a sentence of the document",
                    text.contains(one.quote) ? "a sentence of the document" : "not found under " + one.home);
            if (one.tested) {
                play(one);
                tests++;
            }
        }
        noneForgotten(sentences, document);
        System.out.println("SentenceTests: " + tests + " sentences");
        Checks.finish("SentenceTests");
    }

    private static void play(Sentence one) {
        Player player = new Player(CrossedModules.class);
        player.play(one.steps);
        for (String fault : player.faults) {
            Checks.judge(one.name(), "no fault", fault);
        }
        Checks.judge(one.name(), "some calls", player.right > 0 ? "some calls" : "none");
    }

    /** The document by its headings: a blank for each run of blanks and ends of lines. */
    private static Map<String, String> document(String text) {
        Map<String, StringBuilder> parts = new LinkedHashMap<>();
        String heading = "";
        for (String line : text.split("\n")) {
            Matcher m = HEADING.matcher(line);
            if (m.matches()) {
                heading = m.group(1) != null ? m.group(1) : m.group(2) != null ? m.group(2) : "Constants";
            }
            boolean apart = m.matches() && !heading.equals("Constants");
            parts.computeIfAbsent(heading, k -> new StringBuilder()).append(apart ? "" : line + "\n");
        }
        Map<String, String> document = new LinkedHashMap<>();
        parts.forEach((name, part) -> document.put(name, asked(part.toString()).replaceAll("\\s+", " ")));
        return document;
    }

    /** Left out: the signatures, which LanguageTests reads, and arguments of which no more is said than their names. */
    private static String asked(String part) {
        return part.replaceAll("(?s)```.*?```", "").replaceAll("(?m)^`[^`]*\\)[^`]*`: ", "")
                .replaceAll("(?m)^- `\\w+`: (?:number of|the )[^0-9\n]*$", "").replaceAll("(?m)^Ahead of the calls .*$", "");
    }

    private static void noneForgotten(List<Sentence> sentences, Map<String, String> document) {
        for (Map.Entry<String, String> part : document.entrySet()) {
            if (List.of("", "CrossedModules", "The public face").contains(part.getKey())) {
                continue;
            }
            char[] rest = part.getValue().toCharArray();
            for (Sentence one : sentences) {
                int at = one.home.equals(part.getKey()) ? part.getValue().indexOf(one.quote) : -1;
                while (at >= 0) {
                    Arrays.fill(rest, at, at + one.quote.length(), ' ');
                    at = part.getValue().indexOf(one.quote, at + one.quote.length());
                }
            }
            String forgotten = new String(rest).trim().replaceAll("\\s+", " ");
            Checks.judge("a sentence without a test, under " + part.getKey(), "", forgotten);
        }
    }
}
