import java.io.IOException;
import java.nio.file.Files;
import java.nio.file.Path;

/**
 * Tests that each name a sentence of the document. A sentence has to stand in the section that is
 * open, and when the section ends, none of its words may be left that no test has named.
 */
final class Sentences {
    private final String document;
    private String heading = "";
    private String left = "";

    /** The document's path is the test's first argument. */
    Sentences(String[] args) {
        document = args.length > 0 ? read(Path.of(args[0])) : "";
        if (document.isEmpty()) {
            System.out.println("the document was not found: that the sentences stand in it is not looked at");
        }
    }

    private static String read(Path path) {
        try {
            return Files.readString(path);
        } catch (IOException e) {
            return "";
        }
    }

    /** Opens the section whose heading begins so. */
    void section(String begin) {
        heading = begin.replace(":", "");
        left = "";
        for (String section : document.split("(?m)^## ")) {
            if (section.startsWith(begin)) {
                left = plain(section);
            }
        }
    }

    /** Without the heading, the fences and the signature, which are no sentences. */
    private static String plain(String section) {
        return section.replaceFirst(".*", "")
            .replaceAll("(?m)^```.*$", "")
            .replaceFirst("(?m)^`[^`]*\\([^`]*\\)[^`]*`:", "")
            .replaceAll("\\s+", " ");
    }

    void test(String sentence, Checks.Call test) {
        Checks.about(heading + ": " + sentence);
        if (!document.isEmpty()) {
            int at = left.indexOf(sentence);
            Checks.due("the sentence stands in the document", at >= 0);
            if (at >= 0) {
                left = left.substring(0, at) + "\n" + left.substring(at + sentence.length());
            }
        }
        int before = Checks.done();
        test.run();
        Checks.due("the test looks at an answer", Checks.done() > before);
        Checks.about("");
    }

    /** Ends a section of which every sentence has to be named. */
    void end() {
        Checks.due("sentences of " + heading + " that no test names", left.replaceAll("\\s+", " ").trim(), "");
    }
}
