import java.io.IOException;
import java.io.UncheckedIOException;
import java.nio.file.Files;
import java.nio.file.Path;
import java.util.Set;
import java.util.TreeSet;

/** The document's own words: a test of a boundary names the sentence that it holds the program to. */
final class Doc {
    private static final Path FILE = Path.of(System.getProperty("stairnews.root", "."), "../shared/DOC.md");
    private static final Set<String> named = new TreeSet<>();
    private static String document = "";

    private Doc() {
    }

    /** The answers that follow are due by these words of that section of the document. */
    static void says(String section, String words) {
        Due.of(section + ", \"" + words + "\": ");
        Due.is("these words stand in the document", textOf(section).contains(words), true);
        named.add(section);
    }

    /** Whether a test has named at least one sentence of each of these promises. */
    static void coversPromises(int... numbers) {
        Due.of("");
        for (int number : numbers) {
            Due.is("a sentence of promise " + number + " was named", named.contains("Promise " + number), true);
        }
    }

    private static String textOf(String section) {
        if (document.isEmpty()) {
            document = read();
        }
        String mark = section.startsWith("Promise") ? "## " + section + ":" : "## " + section + "\n";
        int from = document.indexOf(mark);
        if (from < 0) {
            return "";
        }
        int to = document.indexOf("\n## ", from);
        return document.substring(from, to < 0 ? document.length() : to);
    }

    private static String read() {
        try {
            return Files.readString(FILE);
        } catch (IOException e) {
            throw new UncheckedIOException(e);
        }
    }
}
