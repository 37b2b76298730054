import java.io.IOException;
import java.nio.file.DirectoryStream;
import java.nio.file.Files;
import java.nio.file.Path;
import java.util.regex.Matcher;
import java.util.regex.Pattern;

/** Each promise's boundaries have a test: what its section names as an answer in capitals, some test quotes from it. */
public final class SentencesTest {
    private static final Pattern QUOTE = Pattern.compile("Doc\\.says\\(\"(Promise \\d+)\", \"([^\"]*)\"\\)");
    private static final String[] ANSWERS = {"NONE", "UNKNOWN", "OUTSIDE", "STATE", "FULL"};

    public static void main(String[] args) throws IOException {
        String[] quoted = quotes();
        Due due = new Due("the tests");
        for (int promise = 1; promise <= 30; promise++) {
            String text = Doc.section("Promise " + promise);
            due.is("promise " + promise + " is quoted", quoted[promise].isEmpty() ? 0 : 1, 1);
            for (String answer : ANSWERS) {
                if (!hasWord(text, answer)) continue;
                due.is("promise " + promise + ", " + answer + " is quoted", hasWord(quoted[promise], answer) ? 1 : 0, 1);
            }
        }
        Due.finish();
    }

    private static boolean hasWord(String text, String word) {
        return Pattern.compile("\\b" + word + "\\b").matcher(text).find();
    }

    private static String[] quotes() throws IOException {
        StringBuilder[] found = new StringBuilder[31];
        for (int promise = 0; promise <= 30; promise++) found[promise] = new StringBuilder();
        try (DirectoryStream<Path> tests = Files.newDirectoryStream(Path.of("src/test/java"), "*Test.java")) {
            for (Path test : tests) {
                Matcher quote = QUOTE.matcher(Files.readString(test));
                while (quote.find()) found[Integer.parseInt(quote.group(1).substring(8))].append(quote.group(2)).append('\n');
            }
        }
        String[] all = new String[31];
        for (int promise = 0; promise <= 30; promise++) all[promise] = found[promise].toString();
        return all;
    }
}
