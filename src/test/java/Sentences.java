import java.io.IOException;
import java.nio.file.Files;
import java.nio.file.Path;
import java.util.regex.Matcher;
import java.util.regex.Pattern;

/**
 * The sentences of the document: its "Terms" (number 0) and its promises (1 to 21), and which of their
 * words the tests have named. So a sentence that no test names, or that the document does not have, shows.
 */
final class Sentences {
    static final int TERMS = 0;
    private static final int PROMISES = 21;

    private static final String[] TEXTS = new String[PROMISES + 1];
    private static final boolean[][] NAMED = new boolean[PROMISES + 1][];

    private Sentences() {
    }

    static void load(Path document) throws IOException {
        String all = Files.readString(document);
        // the document's first term begins at the end of "What it is"
        int begin = all.indexOf("TOOLS are eight");
        String firstTerm = all.substring(begin, all.indexOf('\n', begin));
        keep(TERMS, firstTerm + section(all, "Terms"));
        for (int number = 1; number <= PROMISES; number++) {
            keep(number, section(all, "Promise " + number + ":"));
        }
    }

    private static String section(String all, String title) {
        Matcher matcher = Pattern.compile("(?ms)^## " + title + "[^\n]*\n(.*?)(?=^## |\\z)").matcher(all);
        return matcher.find() ? matcher.group(1) : "";
    }

    private static void keep(int number, String section) {
        TEXTS[number] = section
            .replaceAll("(?m)^(```.*|Ahead of the calls .*)$", " ")
            .replaceAll("={8} \\d", " ")
            .replaceAll("^\\s*`[^`]*`:", " ")
            .replaceAll("\\s+", " ");
        NAMED[number] = new boolean[TEXTS[number].length()];
        Due.holds("the document tells of " + number, TEXTS[number].length() > 1);
    }

    /** What follows tests these words of the document. */
    static void test(int number, String words) {
        Due.by(number + ": " + words);
        int begin = TEXTS[number].indexOf(words);
        Due.holds("the document says so", begin >= 0);
        for (int i = 0; begin >= 0 && i < words.length(); i++) {
            NAMED[number][begin + i] = true;
        }
    }

    static void allAreTested() {
        Due.by("each sentence has a test");
        for (int number = 0; number <= PROMISES; number++) {
            StringBuilder left = new StringBuilder();
            for (int i = 0; i < NAMED[number].length; i++) {
                left.append(NAMED[number][i] ? '\n' : TEXTS[number].charAt(i));
            }
            String words = left.toString().replaceAll("[\\s,;:.]+", " ").trim();
            Due.holds("of " + number + " no test names '" + words + "'", words.isEmpty());
        }
    }
}
