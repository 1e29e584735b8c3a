import java.io.IOException;
import java.lang.reflect.Method;
import java.lang.reflect.Modifier;
import java.net.URL;
import java.net.URLClassLoader;
import java.nio.file.Files;
import java.nio.file.Path;
import java.util.ArrayList;
import java.util.List;
import java.util.regex.Matcher;
import java.util.regex.Pattern;
import java.util.stream.Collectors;
import java.util.stream.Stream;
import javax.tools.ToolProvider;

/**
 * The calls that README.md shows are compiled and run as they stand there, and answer what their comments tell: the
 * answer behind "=", the exception behind "throws". It is run from the project's folder.
 */
public final class ReadmeTest {
    private static final Check CHECK = new Check("ReadmeTest");
    private static final Path README = Path.of("README.md");
    private static final Path TESTS = Path.of("src/test/java");
    private static final Path OUT = Path.of("build/readme");
    private static final Pattern STATEMENT = Pattern.compile("(FareLattice x = new FareLattice\\(\\)|x\\.[^;]*);(.*)");
    private static final Pattern ANSWER = Pattern.compile(" *// = (true|false|-?[0-9]+(\\.[0-9]+)?)\\b.*");
    private static final Pattern REFUSAL = Pattern.compile(" *// throws ([A-Za-z]+)\\b.*");

    /** The lines between ```java and ```, block by block. */
    private static List<List<String>> blocks(List<String> lines) {
        List<List<String>> blocks = new ArrayList<>();
        boolean isInside = false;
        for (String line : lines) {
            if (line.equals("```java")) {
                blocks.add(new ArrayList<>());
                isInside = true;
            } else if (line.startsWith("```")) {
                isInside = false;
            } else if (isInside && !line.isBlank()) {
                blocks.get(blocks.size() - 1).add(line);
            }
        }
        return blocks;
    }

    /** What the comment behind a call tells, as the generated class tells it; or null if it tells nothing. */
    private static String due(String comment) {
        Matcher answer = ANSWER.matcher(comment);
        Matcher refusal = REFUSAL.matcher(comment);
        if (answer.matches()) {
            return answer.group(1);
        }
        return refusal.matches() ? "throws " + refusal.group(1) : null;
    }

    /** A class whose run() adds to a list what each call answers that is told to answer something. */
    private static String source(String name, List<String> block, List<String> wanted, List<String> asked) {
        StringBuilder body = new StringBuilder();
        for (String line : block) {
            Matcher statement = STATEMENT.matcher(line);
            CHECK.isTrue("README.md shows a call a line: " + line, statement.matches());
            if (!statement.matches()) {
                continue;
            }
            String call = statement.group(1);
            String due = due(statement.group(2));
            boolean isAnswer = due != null && !due.startsWith("throws");
            CHECK.isTrue("a comment that tells an answer is read: " + line, due != null || !statement.group(2).matches(" *// *(=|throws).*"));
            if (due == null) {
                body.append(call).append(";\n");
                continue;
            }
            wanted.add(due);
            asked.add(call);
            body.append("try { ").append(isAnswer ? "told.add(String.valueOf(" + call + "));" : call + "; told.add(\"no exception\");")
                .append(" } catch (RuntimeException e) { told.add(\"throws \" + e.getClass().getSimpleName()); }\n");
        }
        return "public class " + name + " {\n    public static void run(java.util.List<String> told) {\n" + body + "    }\n}\n";
    }

    private static void run(String name, List<String> block) throws Exception {
        List<String> wanted = new ArrayList<>();
        List<String> asked = new ArrayList<>();
        Path file = OUT.resolve(name + ".java");
        Files.writeString(file, source(name, block, wanted, asked));
        String path = System.getProperty("java.class.path");
        int failed = ToolProvider.getSystemJavaCompiler().run(null, null, null, "-cp", path, "-d", OUT.toString(), file.toString());
        CHECK.same("the calls can be compiled", 0, failed);
        if (failed != 0) {
            return;
        }
        List<String> told = new ArrayList<>();
        try (URLClassLoader loader = new URLClassLoader(new URL[] {OUT.toUri().toURL()})) {
            loader.loadClass(name).getMethod("run", List.class).invoke(null, told);
        }
        for (int i = 0; i < wanted.size(); i++) {
            CHECK.same(name + ": " + asked.get(i), wanted.get(i), (Object) (i < told.size() ? told.get(i) : "nothing"));
        }
    }

    private static void eachCallIsShown(List<List<String>> blocks) {
        String shown = blocks.toString();
        for (Method method : FareLattice.class.getDeclaredMethods()) {
            if (Modifier.isPublic(method.getModifiers())) {
                CHECK.isTrue("README.md shows " + method.getName(), shown.contains("x." + method.getName() + "("));
            }
        }
    }

    private static void eachTestIsNamed(String readme) throws IOException {
        try (Stream<Path> paths = Files.list(TESTS)) {
            for (Path path : paths.sorted().collect(Collectors.toList())) {
                String name = path.getFileName().toString().replace(".java", "");
                CHECK.isTrue("README.md names " + name, !name.endsWith("Test") || readme.contains("| `" + name + "` |"));
            }
        }
    }

    public static void main(String[] args) throws Exception {
        Files.createDirectories(OUT);
        List<List<String>> blocks = blocks(Files.readAllLines(README));
        CHECK.isTrue("README.md shows how to use the class", !blocks.isEmpty());
        for (int i = 0; i < blocks.size(); i++) {
            run("Shown" + i, blocks.get(i));
        }
        eachCallIsShown(blocks);
        String readme = Files.readString(README);
        eachTestIsNamed(readme);
        CHECK.isTrue("README.md says how to run the tests", readme.contains("\n.ci/run\n"));
        CHECK.close();
    }
}
