import java.io.IOException;
import java.net.URL;
import java.net.URLClassLoader;
import java.nio.file.Files;
import java.nio.file.Path;
import java.util.ArrayList;
import java.util.Comparator;
import java.util.List;
import java.util.TreeSet;
import java.util.regex.Matcher;
import java.util.regex.Pattern;
import java.util.stream.Collectors;
import java.util.stream.Stream;
import javax.tools.JavaCompiler;
import javax.tools.ToolProvider;

/** What README.md shows as an example answers just as it says, and its tables leave nothing out. */
public final class ReadmeTest {
    private static final Due due = new Due();
    private static final Path README = Path.of("README.md"), DOCUMENT = Path.of("../shared/DOC.md");
    private static final Path TESTS = Path.of("src/test/java");
    private static final int MOST_CALLS = 512;
    private static final Pattern CALL =
            Pattern.compile("\\s*((?:int|long) (\\w+) = )?(x\\.\\w+\\([^()]*\\));\\s*// (-?\\d+)(?![\\w-]).*");

    private ReadmeTest() {
    }

    /** An example as a class of its own, and what its calls are said to answer. */
    private static final class Example {
        private final String name;
        private final List<String> calls = new ArrayList<>();
        private final List<Long> said = new ArrayList<>();
        private final StringBuilder body = new StringBuilder();

        Example(int number, String text) {
            name = "ReadmeExample" + number;
            for (String line : text.split("\n")) {
                add(line);
            }
        }

        private void add(String line) {
            Matcher call = CALL.matcher(line);
            if (!call.matches()) {
                due.holds("no answer is said of " + line, !line.contains("x."));
                body.append(line).append('\n');
                return;
            }
            boolean kept = call.group(1) != null;
            if (kept) {
                body.append(call.group(1)).append(call.group(3)).append(";\n");
            }
            body.append("got[").append(calls.size()).append("] = ").append(kept ? call.group(2) : call.group(3))
                    .append(";\n");
            calls.add(line.trim());
            said.add(Long.parseLong(call.group(4)));
        }

        private String source() {
            return "public final class " + name + " {\npublic static long[] answers() {\nlong[] got = new long["
                    + calls.size() + "];\n" + body + "return got;\n}\n}\n";
        }

        void run(JavaCompiler compiler, Path room) throws IOException, ReflectiveOperationException {
            due.holds(name + " has calls, 512 at most", !calls.isEmpty() && calls.size() <= MOST_CALLS);
            Path file = room.resolve(name + ".java");
            Files.writeString(file, source());
            int failed = compiler.run(null, null, null, "-cp", System.getProperty("java.class.path"),
                    "-d", room.toString(), file.toString());
            due.is("errors in " + name, failed, 0);
            if (failed != 0) {
                return;
            }
            try (URLClassLoader loader = new URLClassLoader(new URL[] {room.toUri().toURL()})) {
                long[] got = (long[]) loader.loadClass(name).getMethod("answers").invoke(null);
                for (int k = 0; k < got.length; k++) {
                    due.is("README.md: " + calls.get(k), got[k], said.get(k));
                }
            }
        }
    }

    private static List<String> allOf(String pattern, String text) {
        List<String> found = new ArrayList<>();
        Matcher matcher = Pattern.compile(pattern, Pattern.DOTALL).matcher(text);
        while (matcher.find()) {
            found.add(matcher.group(1));
        }
        return found;
    }

    private static void examples(String readme) throws IOException, ReflectiveOperationException {
        JavaCompiler compiler = ToolProvider.getSystemJavaCompiler();
        due.holds("there is a compiler", compiler != null);
        if (compiler == null) {
            return;
        }
        Path room = Files.createTempDirectory("readme");
        List<String> blocks = allOf("```java\n(.*?)```", readme);
        due.holds("there are examples", !blocks.isEmpty());
        for (int k = 0; k < blocks.size(); k++) {
            new Example(k, blocks.get(k)).run(compiler, room);
        }
        try (Stream<Path> files = Files.walk(room)) {
            for (Path file : files.sorted(Comparator.reverseOrder()).collect(Collectors.toList())) {
                Files.delete(file);
            }
        }
    }

    /** Outside its examples README.md names each call of the face. */
    private static void calls(String readme, String document) {
        String prose = readme.replaceAll("(?s)```.*?```", "");
        List<String> face = allOf("public (?:int|long) (\\w+)\\(", document);
        due.is("calls of the face", face.size(), 51);
        for (String call : face) {
            due.holds("README.md names " + call + "()", prose.contains("`" + call + "()`"));
        }
        for (String call : allOf("`(\\w+)\\(\\)`", prose)) {
            due.holds(call + "() is of the face", face.contains(call));
        }
    }

    private static void reasons(String readme, String document) {
        String findings = document.substring(document.indexOf("FINDINGS, -10 less: "),
                document.indexOf("What is refused changes"));
        List<String> names = allOf("[1-9] ([A-Z]{3,})\\b", findings);
        due.is("findings", names.size(), 9);
        for (int k = 0; k < names.size(); k++) {
            due.holds("README.md tells of " + names.get(k), readme.contains("| `" + (-11 - k) + "` | " + names.get(k) + " |"));
        }
        due.holds("README.md tells of BAD", readme.contains("| `-2` | `BAD` |"));
        due.holds("README.md tells of FULL", readme.contains("| `-3` | `FULL` |"));
    }

    private static void tests(String readme) throws IOException {
        TreeSet<String> files = new TreeSet<>();
        try (Stream<Path> all = Files.list(TESTS)) {
            all.forEach(file -> files.add(file.getFileName().toString().replace(".java", "")));
        }
        for (String file : files) {
            due.holds("README.md says what " + file + " is for", readme.contains("`" + file + "`"));
        }
        for (String test : allOf("`(\\w+Test|EdgesOf\\w+)`", readme)) {
            due.holds(test + " is there", files.contains(test));
        }
    }

    public static void main(String[] args) throws IOException, ReflectiveOperationException {
        String readme = Files.readString(README);
        String document = Files.readString(DOCUMENT);
        examples(readme);
        calls(readme, document);
        reasons(readme, document);
        tests(readme);
        due.end("ReadmeTest");
    }
}
