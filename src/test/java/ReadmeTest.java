import java.io.IOException;
import java.lang.reflect.InvocationTargetException;
import java.lang.reflect.Method;
import java.lang.reflect.Modifier;
import java.net.URL;
import java.net.URLClassLoader;
import java.nio.file.DirectoryStream;
import java.nio.file.Files;
import java.nio.file.Path;
import java.util.ArrayList;
import java.util.Comparator;
import java.util.List;
import java.util.TreeSet;
import java.util.regex.Matcher;
import java.util.regex.Pattern;
import java.util.stream.Stream;
import javax.tools.ToolProvider;

/**
 * Whether README.md tells the truth: its programs are compiled and run, and each call in them answers as the words behind
 * it say; it shows every method, names every test, and no file that there is not. Run from the project's folder.
 */
public final class ReadmeTest {
    private static final Due due = new Due("ReadmeTest");
    private static final Path README = Path.of("README.md");
    private static final Path TESTS = Path.of("src/test/java");
    // x.call(..);   // answer: words
    private static final Pattern CALL = Pattern.compile("(x\\.(\\w+)\\(.*\\)); *// (-?\\d+): .*");
    private static final Pattern PATH = Pattern.compile("`((?:\\.\\./|\\./)?[\\w.]+/[\\w./]*)`");

    public static void main(String[] args) throws IOException, ReflectiveOperationException {
        String readme = Files.readString(README);
        TreeSet<String> shown = new TreeSet<>();
        List<String> programs = programs(readme, shown);
        due.holds("README.md has programs", !programs.isEmpty());
        run(programs);
        everyMethodIsShown(shown);
        everyTestIsNamed(readme);
        everyPathIsThere(readme);
        due.holds("README.md says how to run the tests", readme.contains("\nbash .ci/run\n"));
        due.holds(".ci/run can be run", Files.isExecutable(Path.of(".ci/run")));
        due.end();
    }

    /** What the programs of README.md call to tell an answer. */
    public static void answers(String call, long got, long want) {
        due.is(call, got, want);
    }

    /** Each block of Java, with every call that has an answer behind it made one that is looked at. */
    private static List<String> programs(String readme, TreeSet<String> shown) {
        List<String> programs = new ArrayList<>();
        StringBuilder program = null;
        int line = 0;
        for (String row : readme.split("\n")) {
            line++;
            if (row.equals("```java")) {
                program = new StringBuilder();
            } else if (row.startsWith("```") && program != null) {
                programs.add(program.toString());
                program = null;
            } else if (program != null) {
                Matcher call = CALL.matcher(row);
                boolean told = call.matches();
                due.holds("README.md " + line + " tells an answer: " + row, told || !row.startsWith("x."));
                if (told) {
                    shown.add(call.group(2));
                    program.append("ReadmeTest.answers(\"README.md ").append(line).append(": ")
                            .append(call.group(1).replace("\\", "\\\\").replace("\"", "\\\"")).append("\", ")
                            .append(call.group(1)).append(", ").append(call.group(3)).append("L);\n");
                } else {
                    program.append(row).append('\n');
                }
            }
        }
        return programs;
    }

    private static void run(List<String> programs) throws IOException, ReflectiveOperationException {
        StringBuilder source = new StringBuilder("public final class Shown {\n");
        for (int k = 0; k < programs.size(); k++) {
            source.append("public static void program").append(k).append("() {\n").append(programs.get(k)).append("}\n");
        }
        Path room = Files.createTempDirectory("readme");
        try {
            Path file = Files.writeString(room.resolve("Shown.java"), source.append("}\n"));
            int compiled = ToolProvider.getSystemJavaCompiler().run(null, null, null, "-Xlint:all", "-Werror",
                    "-cp", System.getProperty("java.class.path"), "-d", room.toString(), file.toString());
            due.is("the programs compile", compiled, 0);
            if (compiled == 0) {
                runCompiled(room, programs.size());
            }
        } finally {
            try (Stream<Path> made = Files.walk(room)) {
                made.sorted(Comparator.reverseOrder()).forEach(path -> path.toFile().delete());
            }
        }
    }

    private static void runCompiled(Path room, int programs) throws IOException, ReflectiveOperationException {
        try (URLClassLoader loader = new URLClassLoader(new URL[] {room.toUri().toURL()})) {
            Class<?> shown = loader.loadClass("Shown");
            for (int k = 0; k < programs; k++) {
                try {
                    shown.getMethod("program" + k).invoke(null);
                } catch (InvocationTargetException e) {
                    due.holds("program " + k + " threw " + e.getCause(), false);
                }
            }
        }
    }

    private static void everyMethodIsShown(TreeSet<String> shown) {
        for (Method m : RingRiders.class.getDeclaredMethods()) {
            if (Modifier.isPublic(m.getModifiers())) {
                due.holds("README.md shows " + m.getName(), shown.contains(m.getName()));
            }
        }
    }

    private static void everyTestIsNamed(String readme) throws IOException {
        try (DirectoryStream<Path> files = Files.newDirectoryStream(TESTS, "*Test.java")) {
            for (Path file : files) {
                String name = file.getFileName().toString().replace(".java", "");
                due.holds("README.md names " + name, Pattern.compile("\\b" + name + "\\b").matcher(readme).find());
            }
        }
    }

    private static void everyPathIsThere(String readme) {
        Matcher path = PATH.matcher(readme);
        int found = 0;
        while (path.find()) {
            found++;
            due.holds(path.group(1) + " is there", Files.exists(Path.of(path.group(1))));
        }
        due.holds("README.md names where things are", found > 0);
    }
}
