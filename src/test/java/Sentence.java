import java.io.IOException;
import java.nio.charset.StandardCharsets;
import java.nio.file.Files;
import java.nio.file.Path;
import java.util.Arrays;

/**
 * The sentences of the document that tests quote. A quote must stand in the document under its promise
 * (0: the Terms), and in the end no words of a promise or of the Terms may be left without a test.
 */
final class Sentence {
    private static final int PROMISES = 37;
    private static final Path DOC = Path.of("..", "shared", "DOC.md");
    private static final String[] TEXTS = new String[PROMISES + 1];
    private static final boolean[][] QUOTED = new boolean[PROMISES + 1][];
    private static boolean read = false;

    private Sentence() {
    }

    /** What follows tests this sentence of a promise, and wrong answers are told with it. */
    static void of(int promise, String quote) {
        readOnce();
        Check.topic((promise == 0 ? "Terms" : "Promise " + promise) + ", '" + quote + "'");
        if (TEXTS[promise] == null) {
            return;
        }
        String plain = quote.replaceAll("\\s+", " ");
        int at = TEXTS[promise].indexOf(plain);
        Check.due("the quote stands in the document", at >= 0, true);
        while (at >= 0) {
            Arrays.fill(QUOTED[promise], at, at + plain.length(), true);
            at = TEXTS[promise].indexOf(plain, at + 1);
        }
    }

    /** Words that no test has quoted are told as wrong. */
    static void close() {
        Check.topic("the document");
        for (int p = 0; p <= PROMISES && TEXTS[p] != null; p++) {
            StringBuilder left = new StringBuilder();
            for (int i = 0; i < TEXTS[p].length(); i++) {
                char sign = TEXTS[p].charAt(i);
                boolean open = !QUOTED[p][i] && Character.isLetterOrDigit(sign);
                left.append(open ? sign : ' ');
            }
            String words = left.toString().trim().replaceAll("\\s+", " ");
            Check.due("promise " + p + ": no test quotes '" + words + "'", words.isEmpty(), true);
        }
        Check.topic("");
    }

    /** Without the document (it is not part of the project) the answers are tested all the same. */
    private static void readOnce() {
        if (read) {
            return;
        }
        read = true;
        try {
            split(Files.readString(DOC, StandardCharsets.UTF_8));
        } catch (IOException e) {
            System.out.println("no " + DOC + ": quotes are not looked up");
        }
    }

    private static void split(String doc) {
        String plain = doc.replace("```text", "").replace("```", "").replace("==== 2.", "").replaceAll("\\s+", " ");
        TEXTS[0] = between(plain, "An object is used", "## The public face")
            + between(plain, "TOKENS of a text", "## Promise 1:");
        for (int p = 1; p <= PROMISES; p++) {
            String end = p < PROMISES ? "## Promise " + (p + 1) + ":" : "## Not promised";
            String whole = between(plain, "## Promise " + p + ":", end);
            TEXTS[p] = whole.substring(whole.indexOf("`: ") + 3);
        }
        for (int p = 0; p <= PROMISES; p++) {
            QUOTED[p] = new boolean[TEXTS[p].length()];
        }
    }

    private static String between(String text, String first, String behind) {
        int from = text.indexOf(first);
        return text.substring(from, text.indexOf(behind, from));
    }
}
