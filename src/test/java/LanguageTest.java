import java.io.IOException;
import java.nio.file.Files;
import java.nio.file.Path;
import java.util.ArrayDeque;
import java.util.ArrayList;
import java.util.Deque;
import java.util.HashMap;
import java.util.HashSet;
import java.util.List;
import java.util.Map;
import java.util.Set;
import java.util.regex.Matcher;
import java.util.regex.Pattern;

/** The rules of ../shared/LANGUAGE.md that can be read off the source text. Run from the project's folder. */
public final class LanguageTest {
    private static final Due due = new Due("LanguageTest");
    private static final Path SOURCE = Path.of("src/main/java/RingRiders.java");
    private static final Pattern METHOD = Pattern.compile(
            "^ {4,8}((?:public|private|static|final) )*(\\w+(?:\\[\\])* )?(\\w+)\\(([^()]*)\\) \\{$", Pattern.MULTILINE);

    public static void main(String[] args) throws IOException {
        String whole = Files.readString(SOURCE);
        String code = withoutCommentsAndTexts(whole);
        words(code);
        signs(whole);
        classes(code);
        methods(code);
        depth(code);
        due.end();
    }

    private static String withoutCommentsAndTexts(String whole) {
        return whole.replaceAll("(?s)/\\*.*?\\*/", "").replaceAll("//[^\n]*", "").replaceAll("\"[^\"\n]*\"", "\"\"");
    }

    private static void words(String code) {
        for (String word : List.of("throw", "throws", "try", "catch", "synchronized", "assert", "import", "package",
                "protected", "native", "volatile", "transient", "var", "yield", "extends Thread", "Object", "Math\\.\\w+Exact",
                "Random", "Thread", "Runtime", "toString", "hashCode", "getClass", "double", "float", "Exception")) {
            due.holds("no " + word, !Pattern.compile("\\b" + word + "\\b").matcher(code).find());
        }
        due.holds("no lambda", !code.contains("->"));
        due.holds("no method reference", !code.contains("::"));
        due.holds("System is for arraycopy alone",
                !Pattern.compile("\\bSystem\\.(?!arraycopy\\()").matcher(code).find());
        due.holds("no static block", !Pattern.compile("static\\s*\\{").matcher(code).find());
        due.holds("static fields are final",
                !Pattern.compile("\\bstatic (?!final\\b|int \\w+\\(|long \\w+\\(|boolean \\w+\\(|void \\w+\\()").matcher(code).find());
        due.holds("no text is joined by +", !Pattern.compile("\"\\s*\\+|\\+\\s*\"").matcher(code).find());
    }

    private static void signs(String whole) {
        for (int k = 0; k < whole.length(); k++) {
            char c = whole.charAt(k);
            if (c != '\n' && (c < 32 || c > 126)) {
                due.holds("a plain sign at " + k, false);
            }
        }
    }

    private static void classes(String code) {
        Matcher m = Pattern.compile("\\b(class|record|enum|interface) \\w+").matcher(code);
        int found = 0;
        while (m.find()) {
            found++;
        }
        due.holds("at most twelve classes, not " + found, found <= 12);
    }

    private static int endOf(String code, int open) {
        int deep = 0;
        for (int k = open; k < code.length(); k++) {
            deep += code.charAt(k) == '{' ? 1 : code.charAt(k) == '}' ? -1 : 0;
            if (deep == 0) {
                return k;
            }
        }
        return code.length();
    }

    private static void methods(String code) {
        Matcher m = METHOD.matcher(code);
        int found = 0;
        while (m.find()) {
            found++;
            String body = code.substring(m.start(), endOf(code, m.end() - 1));
            due.holds(m.group(3) + " is short", body.lines().count() <= 60);
            due.holds(m.group(3) + " takes at most seven", m.group(4).split(",").length <= 7);
        }
        due.holds("methods were found: " + found, found > 80);
    }

    /** Which names a method's body calls; names are taken for methods wherever they stand, which only errs upward. */
    private static Map<String, Set<String>> calls(String code) {
        Map<String, Set<String>> all = new HashMap<>();
        Matcher m = METHOD.matcher(code);
        while (m.find()) {
            Set<String> called = all.computeIfAbsent(m.group(3), name -> new HashSet<>());
            Matcher call = Pattern.compile("\\b(\\w+)\\(").matcher(code.substring(m.end(), endOf(code, m.end() - 1)));
            while (call.find()) {
                called.add(call.group(1));
            }
        }
        return all;
    }

    private static void depth(String code) {
        Map<String, Set<String>> calls = calls(code);
        for (String name : calls.keySet()) {
            List<String> longest = longest(calls, name, new ArrayDeque<>());
            due.holds("at most eight deep: " + longest, longest.size() <= 8);
        }
    }

    private static List<String> longest(Map<String, Set<String>> calls, String name, Deque<String> open) {
        List<String> best = new ArrayList<>();
        if (!calls.containsKey(name) || open.contains(name)) {
            return best;
        }
        open.push(name);
        for (String called : calls.get(name)) {
            List<String> chain = longest(calls, called, open);
            best = chain.size() > best.size() ? chain : best;
        }
        open.pop();
        best = new ArrayList<>(best);
        best.add(0, name);
        return best;
    }
}
