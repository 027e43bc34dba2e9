import java.io.File;
import java.io.IOException;
import java.io.UncheckedIOException;
import java.nio.file.Files;
import java.nio.file.Path;

/** The document itself, so that no test can name a sentence that doesn't stand where it is told to stand. */
final class Document {
    /** What stands ahead of the promises: the Terms and the public face. */
    static final int TERMS = 0;
    static final int PROMISES = 45;
    private static final String TEXT = plain(read(Path.of("../shared/DOC.md")));

    private Document() { }

    private static String read(Path file) {
        try {
            return Files.readString(file);
        } catch (IOException e) {
            throw new UncheckedIOException(e);
        }
    }

    private static String plain(String text) {
        return text.replaceAll("\\s+", " ");
    }

    static boolean says(int promise, String words) {
        int from = promise == TERMS ? 0 : TEXT.indexOf("## Promise " + promise + ":");
        int to = TEXT.indexOf(promise == PROMISES ? "## Not promised" : "## Promise " + (promise + 1) + ":");
        return from >= 0 && to > from && TEXT.substring(from, to).contains(plain(words));
    }

    /** Whether the tests of boundaries hold a sentence of this promise. */
    static boolean isNamedByATest(int promise) {
        File[] tests = new File("src/test/java").listFiles((folder, name) -> name.endsWith("EdgesTest.java"));
        if (tests == null) return false;
        for (File test : tests) {
            if (read(test.toPath()).contains("CHECK.sentence(" + promise + ",")) return true;
        }
        return false;
    }
}
