import java.io.IOException;
import java.lang.reflect.InvocationTargetException;
import java.lang.reflect.Method;
import java.lang.reflect.Modifier;
import java.net.URL;
import java.net.URLClassLoader;
import java.nio.charset.StandardCharsets;
import java.nio.file.Files;
import java.nio.file.Path;
import java.util.ArrayList;
import java.util.List;
import java.util.regex.Matcher;
import java.util.regex.Pattern;
import java.util.stream.Stream;
import javax.tools.JavaCompiler;
import javax.tools.ToolProvider;

/** What README.md shows holds: its Java is compiled and run, and each call answers what stands behind it. */
public final class ReadmeTests {
    private static final Path README = Path.of("README.md");
    private static final Path TESTS = Path.of("src/test/java");
    private static final Pattern BLOCK = Pattern.compile("(?s)```java\n(.*?)```");
    private static final Pattern SHOWN = Pattern.compile("(\\w+\\..*\\));\\s*// (-?\\w+)(:.*)?");

    private static final List<String> calls = new ArrayList<>();
    private static final List<String> answers = new ArrayList<>();

    public static void main(String[] args) throws IOException, ReflectiveOperationException {
        String readme = Files.readString(README, StandardCharsets.UTF_8);
        List<String> got = run(program(readme));
        for (int k = 0; k < calls.size(); k++) {
            Due.promise("README.md: " + calls.get(k));
            if (k >= got.size() || !got.get(k).equals(answers.get(k))) {
                Due.wrong("answered " + (k < got.size() ? got.get(k) : "nothing") + ", shown is " + answers.get(k));
            }
        }
        shows();
        namesCalls(readme);
        namesTests(readme);
        Due.end();
    }

    /** What README.md shows, as a class that tells what each call answered. */
    private static String program(String readme) {
        StringBuilder functions = new StringBuilder();
        StringBuilder statements = new StringBuilder();
        Matcher blocks = BLOCK.matcher(readme);
        while (blocks.find()) {
            String block = blocks.group(1);
            if (block.startsWith("static ")) {
                functions.append(block);
            } else {
                for (String line : block.split("\n")) {
                    statements.append(statement(line)).append('\n');
                }
            }
        }
        return "public final class ReadmeProgram {\n" + functions
            + "public static void run(java.util.List<String> got) {\n" + statements + "}\n}\n";
    }

    private static String statement(String line) {
        Matcher shown = SHOWN.matcher(line);
        if (!shown.matches()) {
            return line;
        }
        calls.add(shown.group(1));
        answers.add(shown.group(2));
        return "try { got.add(\"\" + " + shown.group(1) + "); } catch (java.util.NoSuchElementException e) {"
            + " got.add(\"NoSuchElementException\"); }";
    }

    private static List<String> run(String program) throws IOException, ReflectiveOperationException {
        Path dir = Files.createTempDirectory("readme");
        Path source = dir.resolve("ReadmeProgram.java");
        Path compiled = dir.resolve("ReadmeProgram.class");
        List<String> got = new ArrayList<>();
        try {
            Files.writeString(source, program, StandardCharsets.UTF_8);
            JavaCompiler javac = ToolProvider.getSystemJavaCompiler();
            int code = javac.run(null, null, null, "-encoding", "UTF-8", "-cp", System.getProperty("java.class.path"),
                "-d", dir.toString(), source.toString());
            if (code == 0) {
                call(dir, got);
            }
        } finally {
            Files.deleteIfExists(compiled);
            Files.deleteIfExists(source);
            Files.deleteIfExists(dir);
        }
        return got;
    }

    private static void call(Path dir, List<String> got) throws IOException, ReflectiveOperationException {
        URL[] where = {dir.toUri().toURL()};
        try (URLClassLoader loader = new URLClassLoader(where, ReadmeTests.class.getClassLoader())) {
            loader.loadClass("ReadmeProgram").getMethod("run", List.class).invoke(null, got);
        } catch (InvocationTargetException e) {
            System.out.println("README.md: what it shows throws " + e.getCause());
        }
    }

    /** It shows texts, refused calls, the ROW and what throws. */
    private static void shows() {
        Due.promise("README.md shows what it has to show");
        String all = " " + String.join(" ", calls);
        for (String call : List.of("sign(", "end(", "house()", "people()", "rule()", "winter()", "row(", "undo()", "keep(")) {
            Due.is("whether it shows ." + call, all.contains("." + call), true);
        }
        for (String answer : List.of("-1", "-2", "-3", "false", "NoSuchElementException")) {
            Due.is("whether it shows what answers " + answer, answers.contains(answer), true);
        }
    }

    private static void namesCalls(String readme) {
        Due.promise("README.md names each call");
        for (Method m : LetByTheDegree.class.getDeclaredMethods()) {
            if (Modifier.isPublic(m.getModifiers())) {
                Due.is("whether it names " + m.getName(), readme.contains("`" + m.getName() + "`"), true);
            }
        }
    }

    private static void namesTests(String readme) throws IOException {
        Due.promise("README.md names each test");
        try (Stream<Path> files = Files.list(TESTS)) {
            for (Path file : files.toList()) {
                String name = file.getFileName().toString().replace(".java", "");
                Due.is("whether it names " + name, readme.contains("`" + name + "`"), true);
            }
        }
        Due.is("whether it tells of .ci/run", readme.contains(".ci/run"), true);
    }
}
