import java.io.IOException;
import java.nio.file.Files;
import java.nio.file.Path;
import java.util.List;
import java.util.regex.Matcher;
import java.util.regex.Pattern;

/** What can be seen of LANGUAGE.md's rules by reading the text of the class; it is run from the project's folder. */
public final class LanguageTest {
    private static final Check CHECK = new Check("LanguageTest");
    private static final Path SOURCE = Path.of("src/main/java/FareLattice.java");

    /** What the rules leave out, or what this class has no need of. */
    private static final String[] NONE_OF = {"->", "::", "\\btry\\b", "\\bcatch\\b", "\\bfinally\\b", "\\bassert\\b",
        "\\bsynchronized\\b", "\\bpackage\\b", "\\bprotected\\b", "\\bvar\\b", "\\bdo\\b", "\\bwhile\\b", "Exact\\(",
        "\\bstatic \\{", "\\bSystem\\.", "\\bRandom\\b", "\\bThread\\b", "\\bObject\\b", "\\bequals\\b", "\\bhashCode\\b",
        "\\btoString\\b", "\\bextends\\b", "\\bdouble\\b", "NullPointerException", "ArrayIndexOutOfBounds",
        "ClassCastException", "NegativeArraySize", "ArrayStoreException", "ArithmeticException", "RuntimeException",
        "\\|=", "&=", "\\[\\]\\[\\]"};

    private static final List<String> IMPORTS = List.of("import java.util.ArrayList;", "import java.util.List;");
    private static final Pattern METHOD = Pattern.compile("^( {4}| {8})(?! )[^=;]*\\)[^=;]* ?\\{$");
    private static final int MOST_LINES = 60;

    private static String withoutComments(String text) {
        return text.replaceAll("(?s)/\\*.*?\\*/", "").replaceAll("//[^\n]*", "");
    }

    private static void wordsLeftOut(String text) {
        String code = withoutComments(text);
        for (String word : NONE_OF) {
            Matcher found = Pattern.compile(word).matcher(code);
            CHECK.isTrue("without " + word, !found.find());
        }
        for (int i = 0; i < text.length(); i++) {
            if (text.charAt(i) > 126 || text.charAt(i) < 32 && text.charAt(i) != '\n') {
                CHECK.same("plain signs alone, at " + i, -1, text.charAt(i));
            }
        }
    }

    private static void imports(List<String> lines) {
        for (String line : lines) {
            if (line.startsWith("import")) {
                CHECK.isTrue("an import of the library that is listed: " + line, IMPORTS.contains(line));
            }
        }
    }

    /** Each method's lines are counted up to the line that closes it with the same indent. */
    private static void lengths(List<String> lines) {
        int methods = 0;
        for (int i = 0; i < lines.size(); i++) {
            String line = lines.get(i);
            if (!METHOD.matcher(line).matches() || line.contains(" class ") || line.contains("if (") || line.contains("for (")) {
                continue;
            }
            String end = line.substring(0, line.length() - line.stripLeading().length()) + "}";
            int length = 1;
            while (i + length < lines.size() && !lines.get(i + length).equals(end)) {
                length++;
            }
            methods++;
            CHECK.isTrue("a short method: " + line.strip(), length < MOST_LINES);
        }
        CHECK.isTrue("methods were found", methods > 80);
    }

    public static void main(String[] args) throws IOException {
        List<String> lines = Files.readAllLines(SOURCE);
        wordsLeftOut(Files.readString(SOURCE));
        imports(lines);
        lengths(lines);
        CHECK.close();
    }
}
