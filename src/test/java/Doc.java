import java.io.IOException;
import java.nio.file.Files;
import java.nio.file.Path;

/** The document's own words: a test of a boundary quotes the sentence that it holds. */
final class Doc {
    private static final Path PATH = Path.of("../shared/DOC.md");
    private static final Due QUOTES = new Due("the document");

    private Doc() {
    }

    static Due says(String section, String words) {
        String text = section(section);
        if (!text.isEmpty()) QUOTES.is("\"" + words + "\" stands in \"" + section + "\"", text.contains(words) ? 1 : 0, 1);
        return new Due(section + ", \"" + words + "\"");
    }

    /** A section's text in one line; empty, if the document is not at hand: then the tests hold without it. */
    static String section(String name) {
        if (!Files.isReadable(PATH)) return "";
        try {
            for (String part : Files.readString(PATH).split("(?m)^## ")) {
                if (part.startsWith(name + ":") || part.startsWith(name + "\n")) return part.replaceAll("\\s+", " ");
            }
        } catch (IOException failed) {
            throw new IllegalStateException(failed);
        }
        throw new IllegalStateException("no section " + name);
    }
}
