import java.io.IOException;
import java.nio.file.Files;
import java.nio.file.Path;
import java.util.Arrays;

/**
 * The document's own words: a test of a boundary names the words it holds, and at the end of its
 * section no word may be left that no test has named.
 */
final class Doc {
    private static String raw;
    private static String document;
    private static String section = "";
    private static boolean[] named = new boolean[0];

    private Doc() {
    }

    /** Reads ../shared/DOC.md beside the project. */
    static void open(String[] args) {
        Path path = Path.of(args.length > 0 ? args[0] : ".", "..", "shared", "DOC.md");
        try {
            raw = Files.readString(path);
            document = plain(raw);
        } catch (IOException e) {
            System.out.println("there is no document at " + path + ": its words are not looked at");
        }
    }

    /** The document with its lines; null where there is none. */
    static String lines() {
        return raw;
    }

    private static String plain(String text) {
        return text.replace("```text", " ").replace("```", " ").replaceAll("\\s+", " ");
    }

    /** What stands between two marks is looked at till the next call. */
    static void from(String start, String end) {
        if (document == null) {
            return;
        }
        int from = document.indexOf(start);
        int to = from < 0 ? -1 : document.indexOf(end, from + start.length());
        Check.holds("the document has '" + start + "' and '" + end + "' behind it", to >= 0);
        section = to < 0 ? "" : document.substring(from, to);
        named = new boolean[section.length()];
    }

    /** A promise's words, without its head and the face of its call. */
    static void fromPromise(int number) {
        from("## Promise " + number + ": ", "## ");
        int behindFace = section.indexOf("`: ") + 3;
        Arrays.fill(named, 0, Math.min(named.length, Math.max(0, behindFace)), true);
    }

    static void says(String words) {
        if (document == null) {
            return;
        }
        int at = section.indexOf(plain(words));
        while (at >= 0 && named[at]) {
            at = section.indexOf(plain(words), at + 1);
        }
        Check.holds("the document says there, and not named before: " + words, at >= 0);
        if (at >= 0) {
            Arrays.fill(named, at, at + plain(words).length(), true);
        }
    }

    static void allIsNamed() {
        StringBuilder left = new StringBuilder();
        for (int i = 0; i < named.length; i++) {
            if (!named[i] && (Character.isLetterOrDigit(section.charAt(i)) || left.length() > 0)) {
                left.append(section.charAt(i));
            }
        }
        Check.holds("a test names each word, but not: " + left, left.length() == 0);
    }
}
