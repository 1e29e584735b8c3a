import java.io.IOException;
import java.nio.file.Files;
import java.nio.file.Path;
import java.util.List;
import java.util.stream.Collectors;
import java.util.stream.Stream;

/** Each part of the document has an edge test that stands for it; it is run from the project's folder. */
public final class EdgeDocTest {
    private static final Check CHECK = new Check("EdgeDocTest");
    private static final Path TESTS = Path.of("src/test/java");

    /** Titles without text, the face, for which FaceTest stands, and what is not promised. */
    private static final List<String> OTHERS = List.of("FareLattice", "Terms", "The public face", "Not promised");

    private static String edgeTests() throws IOException {
        StringBuilder text = new StringBuilder();
        try (Stream<Path> paths = Files.list(TESTS)) {
            for (Path path : paths.sorted().collect(Collectors.toList())) {
                if (path.getFileName().toString().matches("Edge.*Test\\.java") && !path.endsWith("EdgeDocTest.java")) {
                    text.append(Files.readString(path));
                }
            }
        }
        return text.toString();
    }

    public static void main(String[] args) throws IOException {
        String tests = edgeTests();
        CHECK.isTrue("there are edge tests", tests.contains("new Sentences("));
        if (Sentences.isDocThere()) {
            for (String heading : Sentences.read().keySet()) {
                boolean isStoodFor = tests.contains("DOC.in(\"" + heading + "\")");
                CHECK.isTrue("an edge test for: " + heading, isStoodFor || OTHERS.contains(heading));
            }
        }
        CHECK.close();
    }
}
