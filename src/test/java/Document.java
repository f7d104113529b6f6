import java.io.IOException;
import java.nio.file.Files;
import java.nio.file.Path;
import java.util.ArrayList;
import java.util.List;

/** DOC.md: whether it has the words that a test names, and which of its words no test has named. */
final class Document {
    static final int PROMISES = 39;

    /** A text, and which of its signs have been named. */
    private static final class Section {
        final String text;
        final boolean[] named;

        Section(String text) {
            this.text = plain(text);
            this.named = new boolean[this.text.length()];
        }

        boolean name(String words) {
            boolean found = false;
            for (int at = text.indexOf(words); at >= 0; at = text.indexOf(words, at + 1)) {
                found = true;
                for (int i = at; i < at + words.length(); i++) {
                    named[i] = true;
                }
            }
            return found;
        }

        List<String> unnamed() {
            List<String> left = new ArrayList<>();
            int from = 0;
            for (int i = 0; i <= named.length; i++) {
                if (i == named.length || named[i]) {
                    String piece = text.substring(from, i);
                    if (piece.matches(".*[A-Za-z0-9].*")) {
                        left.add(piece.trim());
                    }
                    from = i + 1;
                }
            }
            return left;
        }
    }

    /** What stands ahead of the promises is section 0. */
    private final Section[] sections = new Section[PROMISES + 1];
    private final boolean[] promiseNamed = new boolean[PROMISES + 1];

    Document(Path path) {
        String doc = read(path);
        sections[0] = new Section(between(doc, "An object is used for", "## The public face")
                + between(doc, "\nI. An UPLAND", "Ahead of the calls `later`"));
        for (int n = 1; n <= PROMISES; n++) {
            String whole = between(doc, "## Promise " + n + ":", n < PROMISES ? "## Promise " + (n + 1) + ":" : "## Not");
            sections[n] = new Section(whole.substring(Math.max(0, whole.indexOf("`: ") + 3)));
        }
    }

    private static String read(Path path) {
        try {
            return Files.readString(path);
        } catch (IOException e) {
            Due.is("reading " + path + ": " + e, 0, 1);
            return "";
        }
    }

    private static String between(String doc, String from, String to) {
        int start = doc.indexOf(from);
        int end = start < 0 ? -1 : doc.indexOf(to, start);
        return end < 0 ? "" : doc.substring(start, end);
    }

    /** Without the marks of text blocks and the numbers of the terms' parts; blanks are alike. */
    private static String plain(String text) {
        return text.replaceAll("```(text)?", " ").replaceAll("(^|\\n)(I|II|III|IV)\\. ", " ").replaceAll("\\s+", " ");
    }

    /** Whether the promise itself or the terms have these words. */
    boolean name(int promise, String words) {
        promiseNamed[promise] = true;
        boolean inPromise = sections[promise].name(words);
        boolean inTerms = sections[0].name(words);
        return inPromise || inTerms;
    }

    List<String> unnamed() {
        List<String> left = new ArrayList<>();
        for (int n = 0; n <= PROMISES; n++) {
            for (String piece : sections[n].unnamed()) {
                left.add((n == 0 ? "terms: " : "promise " + n + ": ") + piece);
            }
            if (n > 0 && !promiseNamed[n]) {
                left.add("promise " + n + ", all of it");
            }
        }
        return left;
    }
}
