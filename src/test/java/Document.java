import java.io.IOException;
import java.nio.file.Files;
import java.nio.file.Path;
import java.util.Arrays;

/** The words of ../shared/DOC.md, and which of them a test stands beside. */
final class Document {
    private static final Path PLACE = Path.of("../shared/DOC.md");
    private static final int PROMISES = 19;
    /** What the interface says ahead of groups of calls: it tells no behaviour. */
    private static final String GROUPS = "Ahead of the calls";

    private final String words;
    private final boolean[] quoted;

    private Document(String words) {
        this.words = words;
        quoted = new boolean[words.length()];
    }

    static boolean isThere() {
        return Files.isReadable(PLACE);
    }

    static Document read() throws IOException {
        String text = Files.readString(PLACE).replaceAll("```(text|java)?|=====+( \\d)?", " ");
        return new Document(text.replaceAll("\\s+", " "));
    }

    /** Marks a sentence as quoted: under its promise's heading, or in what stands ahead of all promises. */
    boolean quote(int promise, String sentence) {
        int at = words.indexOf(sentence, start(promise));
        if (at < 0 || at >= start(promise + 1)) at = words.indexOf(sentence);
        if (at < 0 || at >= start(1) && at < start(promise) || at >= start(promise + 1)) return false;
        Arrays.fill(quoted, at, at + sentence.length(), true);
        return true;
    }

    private int start(int promise) {
        int at = words.indexOf(promise > PROMISES ? "## Not promised" : "## Promise " + promise + ":");
        return at < 0 ? words.length() : at;
    }

    /** What the terms say and no test stands beside; empty, if there is nothing. */
    String unquotedTerms() {
        int from = words.indexOf("## Terms") + "## Terms".length();
        return unquoted(from, words.indexOf(GROUPS));
    }

    /** The same of a promise, behind its heading and its call. */
    String unquotedPromise(int promise) {
        int call = words.indexOf("`: ", start(promise));
        return unquoted(call, start(promise + 1));
    }

    private String unquoted(int from, int to) {
        if (from < 0 || to < from) return "the document has another form";
        StringBuilder rest = new StringBuilder();
        for (int i = from; i < to; i++) rest.append(quoted[i] ? ' ' : words.charAt(i));
        return rest.toString().replaceAll("[ ;:.,`]+", " ").trim();
    }
}
