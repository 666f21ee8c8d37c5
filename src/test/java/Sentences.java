import java.io.IOException;
import java.nio.file.Files;
import java.nio.file.Path;
import java.util.LinkedHashSet;
import java.util.Set;

/**
 * Goes through the document piece by piece, in its order, and runs the test of each piece.
 * The pieces must make up the whole of a section, so no sentence can be left without a test.
 */
final class Sentences {
    private static final Path DOCUMENT = Path.of("../shared/DOC.md");
    private final Check check;
    private final String document;
    private final Set<String> untold = new LinkedHashSet<>();
    private String section = "";
    /** What of the section has not been told yet. */
    private String rest = "";

    Sentences(Check check) throws IOException {
        this.check = check;
        document = Files.readString(DOCUMENT);
        for (String line : document.split("\n")) {
            if (line.startsWith("## ")) {
                untold.add(line.substring(3));
            }
        }
    }

    void section(String heading) {
        endOfSection();
        section = heading;
        check.about(heading);
        if (!untold.remove(heading)) {
            check.fail("no such section, or it was told already");
            return;
        }
        String body = document.substring(document.indexOf("## " + heading + "\n") + heading.length() + 3);
        int next = body.indexOf("\n## ");
        rest = plain(next < 0 ? body : body.substring(0, next));
    }

    /** Without signatures, fences and lines that only say where a call stands in the interface. */
    private static String plain(String body) {
        return body.replaceAll("(?m)^Ahead of the calls .*$", "").replaceAll("(?m)^```.*$", "")
            .replaceAll("(?m)^`[^`]*`:", "").replace("========", "").replaceAll("\\s+", " ").trim();
    }

    /** The next piece of the section, and the test that fails if it does not hold. */
    void holds(String piece, Runnable test) {
        check.about(section + " | " + piece);
        if (rest.startsWith(piece)) {
            rest = rest.substring(piece.length()).trim();
        } else {
            check.fail("the document does not say this next, but: " + rest);
        }
        int before = check.asked();
        test.run();
        if (check.asked() == before) {
            check.fail("its test asked nothing");
        }
    }

    /** Words that promise nothing, up to those told. */
    void passTo(String words) {
        rest = rest.substring(Math.max(0, rest.indexOf(words)));
    }

    /** A section that promises nothing, or has a test elsewhere. */
    void passSection(String heading) {
        endOfSection();
        section = heading;
        untold.remove(heading);
    }

    void end() {
        endOfSection();
        check.about("");
        if (!untold.isEmpty()) {
            check.fail("sections without tests: " + untold);
        }
    }

    private void endOfSection() {
        if (!rest.isEmpty()) {
            check.about(section);
            check.fail("without a test: " + rest);
        }
        rest = "";
    }
}
