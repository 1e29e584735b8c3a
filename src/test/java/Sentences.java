import java.io.IOException;
import java.nio.file.Files;
import java.nio.file.Path;
import java.util.LinkedHashMap;
import java.util.List;
import java.util.Map;

/**
 * Holds tests to the words of the document: each test quotes the sentence that it asks, the quote has to stand
 * there, and at the end no word of the parts that a test stands for may be left without one.
 */
final class Sentences {
    private static final Path DOC = Path.of("../shared/DOC.md");

    private final Check check;
    private final boolean isDocThere = isDocThere();
    private final Map<String, Part> parts = new LinkedHashMap<>();
    private Part part;

    /** The text under a heading, and which of its signs have been quoted. */
    private static final class Part {
        final String text;
        final boolean[] isQuoted;

        Part(String text) {
            this.text = text;
            this.isQuoted = new boolean[text.length()];
        }

        boolean quote(String sentence) {
            int at = text.indexOf(sentence);
            boolean isThere = at >= 0 && !sentence.isEmpty();
            while (at >= 0 && isThere) {
                for (int i = at; i < at + sentence.length(); i++) {
                    isQuoted[i] = true;
                }
                at = text.indexOf(sentence, at + 1);
            }
            return isThere;
        }

        /** The words that no test has quoted; signs between quotes don't count. */
        String left() {
            StringBuilder words = new StringBuilder();
            for (int i = 0; i < text.length(); i++) {
                words.append(isQuoted[i] ? ' ' : text.charAt(i));
            }
            String found = words.toString().replaceAll("\\s+", " ").strip();
            return found.matches(".*[A-Za-z0-9].*") ? found : "";
        }
    }

    Sentences(Check check, List<String> headings) {
        this.check = check;
        if (!isDocThere) {
            System.out.println(DOC + " is not there: the tests run, but their quotes are not compared");
            return;
        }
        Map<String, String> all = read();
        for (String heading : headings) {
            check.isTrue("the document has the part " + heading, all.containsKey(heading));
            parts.put(heading, new Part(all.getOrDefault(heading, "")));
        }
    }

    static boolean isDocThere() {
        return Files.isReadable(DOC);
    }

    /** The texts of the document by their headings, in one line each, without the signature of a call. */
    static Map<String, String> read() {
        Map<String, String> texts = new LinkedHashMap<>();
        String heading = "";
        for (String line : lines()) {
            if (line.startsWith("#")) {
                heading = line.replaceFirst("^#+ ", "").strip();
                texts.put(heading, "");
            } else if (!line.isBlank()) {
                texts.merge(heading, line.strip(), (a, b) -> a.isEmpty() ? b : a + " " + b);
            }
        }
        texts.replaceAll((key, text) -> text.replaceFirst("^`[^`]*`: ", "").replaceAll("\\s+", " "));
        return texts;
    }

    private static List<String> lines() {
        try {
            return Files.readAllLines(DOC);
        } catch (IOException e) {
            throw new IllegalStateException("there is no " + DOC);
        }
    }

    /** The sentences that follow stand under this heading. */
    void in(String heading) {
        part = parts.get(heading);
        check.isTrue("this test stands for the part " + heading, part != null || !isDocThere);
    }

    /** Asks a sentence of the document by a test of its own. */
    void asks(String sentence, Check.Deed test) {
        quote(sentence);
        int before = check.asked();
        check.within(sentence);
        test.run();
        check.within("");
        check.isTrue("something was asked of: " + sentence, check.asked() > before);
    }

    /** A sentence that names things alone, with no boundary that a call could show. */
    void names(String sentence) {
        quote(sentence);
    }

    private void quote(String sentence) {
        boolean isThere = part != null && part.quote(sentence);
        check.isTrue("the document says: " + sentence, isThere || !isDocThere);
    }

    void close() {
        for (Map.Entry<String, Part> entry : parts.entrySet()) {
            check.same("left of " + entry.getKey() + " without a test", "", (Object) entry.getValue().left());
        }
        check.close();
    }
}
