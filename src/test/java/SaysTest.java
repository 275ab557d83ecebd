import java.io.IOException;
import java.lang.reflect.Method;
import java.nio.file.DirectoryStream;
import java.nio.file.Files;
import java.nio.file.Path;
import java.util.Map;
import java.util.TreeMap;
import java.util.TreeSet;
import java.util.regex.Matcher;
import java.util.regex.Pattern;

/**
 * Whether each sentence of the document that names an edge has a test that says it. Run from the project's folder, with
 * ../shared beside it.
 */
public final class SaysTest {
    private static final Due due = new Due("SaysTest");
    private static final Path DOCUMENT = Path.of("../shared/DOC.md");
    private static final Path TESTS = Path.of("src/test/java");
    private static final String TERMS = "T";
    private static final int PROMISES = 40;
    // What an edge is named by: a range, a refusal, too few, too many, none, the first, what is cut or left over.
    private static final Pattern EDGE = Pattern.compile("\\.\\.|-\\d+|\\bat (most|least)\\b"
            + "|\\b(BAD|NO|FULL|NONE|[Nn]one|nobody|somebody|oneself|first|once|again|round and round|cut|left|empty|early)\\b"
            + "|\\b(beyond|unlike|alike|like ones|kept|fewest|rising|rest|too|or|not|less|more|apart)\\b"
            + "|\\b(as now|stays?|changed|changing|undone?)\\b");

    public static void main(String[] args) throws IOException, ReflectiveOperationException {
        Map<String, String> sections = sections(Files.readString(DOCUMENT));
        due.is("sections", sections.size(), PROMISES + 1);
        Map<String, boolean[]> said = new TreeMap<>();
        sections.forEach((name, text) -> said.put(name, new boolean[text.length()]));
        for (String test : edgeTests()) {
            for (Method m : Class.forName(test).getDeclaredMethods()) {
                if (m.isAnnotationPresent(Says.class)) {
                    for (String quote : m.getAnnotation(Says.class).value()) {
                        say(test + "." + m.getName(), quote, sections, said);
                    }
                }
            }
        }
        sections.forEach((name, text) -> nothingLeftOut(name, text, said.get(name)));
        due.end();
    }

    private static TreeSet<String> edgeTests() throws IOException {
        TreeSet<String> names = new TreeSet<>();
        try (DirectoryStream<Path> files = Files.newDirectoryStream(TESTS, "Edge*Test.java")) {
            for (Path file : files) {
                names.add(file.getFileName().toString().replace(".java", ""));
            }
        }
        return names;
    }

    /** The Terms, and each promise without its signature, blanks folded. */
    private static Map<String, String> sections(String document) {
        Map<String, String> sections = new TreeMap<>();
        for (String part : document.split("(?m)^## ")) {
            Matcher promise = Pattern.compile("Promise (\\d+):[^\n]*\n\\s*`[^`]*`: (.*)", Pattern.DOTALL).matcher(part);
            if (part.startsWith("Terms")) {
                String terms = part.substring("Terms".length(), part.indexOf("Ahead of the calls"));
                sections.put(TERMS, folded(terms.replace("```text", "").replace("```", "")));
            } else if (promise.matches()) {
                sections.put(promise.group(1), folded(promise.group(2)));
            }
        }
        return sections;
    }

    private static String folded(String text) {
        return text.replaceAll("\\s+", " ").trim();
    }

    private static void say(String test, String quote, Map<String, String> sections, Map<String, boolean[]> said) {
        String name = quote.substring(0, Math.max(0, quote.indexOf(':')));
        String words = quote.substring(quote.indexOf(':') + 1).trim();
        String text = sections.getOrDefault(name, "");
        int at = text.indexOf(words);
        due.holds(test + " says what the document does not: " + quote, at >= 0 && !words.isEmpty());
        due.is(test + " says what stands in two places: " + quote, text.lastIndexOf(words), at);
        for (int k = 0; at >= 0 && k < words.length(); k++) {
            said.get(name)[at + k] = true;
        }
    }

    private static void nothingLeftOut(String name, String text, boolean[] said) {
        Matcher edge = EDGE.matcher(text);
        while (edge.find()) {
            boolean whole = true;
            for (int k = edge.start(); k < edge.end(); k++) {
                whole &= said[k];
            }
            String around = text.substring(Math.max(0, edge.start() - 60), Math.min(text.length(), edge.end() + 40));
            due.holds("no test says, in " + name + ": .. " + around, whole);
        }
    }
}
