import java.io.IOException;
import java.util.TreeSet;

/** What the tests of single sentences share: each stands beside its promise's number and the document's words. */
abstract class Boundaries {
    static final int BAD = -1, STATE = -2, FULL = -3, NONE = -9;
    static final int LOW = Integer.MIN_VALUE, HIGH = Integer.MAX_VALUE;
    /** By a search over drawn texts: 3000 states, 79 ends, all stuck; and 3001 states. */
    static final String JUST_FITS = "tk0 1i0u1u1w1 0;ts0 1i1i0;tb1 1s0 0l1s0 1b1 0;tl1b0 1q1 0k0 2i1;";
    static final String ONE_TOO_MANY = "ts0 0k0 3b0 0;tq0 2b0 0q0 2;ti0b0 1q0 1q0 1u0;tw0 1u0u0;";

    private static Document document = null;
    private static final TreeSet<Integer> promises = new TreeSet<>();
    private static int sentences = 0;

    private static boolean named = false;

    /** Named: each sentence is printed, for those who look which of them a change breaks. */
    static void open(boolean withNames) throws IOException {
        named = withNames;
        if (Document.isThere()) document = Document.read();
        else System.out.println("the document is not there: its words were not compared");
    }

    /** One sentence and its test; a test that asks nothing, or ends with an exception, is wrong. */
    static void test(int promise, String sentence, Runnable answers) {
        sentences++;
        promises.add(promise);
        int asked = Check.answers();
        int wrong = Check.wrong();
        String name = "promise " + promise + " \"" + sentence + "\"";
        if (named) System.out.println("SENTENCE: " + name);
        Check.head(name + ": ");
        if (document != null) Check.due("the document has these words", document.quote(promise, sentence) ? 1 : 0, 1);
        int ahead = Check.answers();
        try {
            answers.run();
        } catch (RuntimeException thrown) {
            Check.due("no exception, but " + thrown + ";", 1, 0);
        }
        Check.due("something was asked", Check.answers() > ahead ? 1 : 0, 1);
        Check.head("");
        if (Check.wrong() > wrong) {
            System.out.println("BROKEN: " + name + ", " + (Check.wrong() - wrong) + " of " + (Check.answers() - asked));
        }
    }

    /** Each promise, and all that the document says of it, has a test. */
    static void close() {
        for (int promise = 1; promise <= 19; promise++) {
            due("promise " + promise + " has a test", promises.contains(promise) ? 1 : 0, 1);
            if (document != null) Check.same("words of promise " + promise + " without a test", document.unquotedPromise(promise), "");
        }
        if (document != null) Check.same("words of the terms without a test", document.unquotedTerms(), "");
        System.out.println(sentences + " sentences");
    }

    static void due(String what, int got, int want) {
        Check.due(what, got, want);
    }

    static void items(String text, int want) {
        WaitPlaces x = new WaitPlaces();
        due("items of '" + text + "'", Check.tell(x, text), want);
    }

    static void fault(String text, int at) {
        WaitPlaces x = new WaitPlaces();
        due("fault of '" + text + "'", Check.tell(x, text), -10 - at);
    }

    /** All that can be asked of an object without a change, in some 80 calls. */
    static String look(WaitPlaces x) {
        StringBuilder all = new StringBuilder(how(x));
        for (int what = 0; what < 6; what++) all.append(" c").append(x.count(what));
        for (int what = 0; what < 4; what++) all.append(" a").append(x.all(what));
        for (int k = -1; k < 4; k++) all.append(" w").append(x.worst(k));
        for (int p = 0; p < 3; p++) all.append(" p").append(x.can(p, 0)).append(',').append(x.can(p, 1));
        all.append(" s").append(x.slept()).append(" u").append(x.unseen(0)).append(',').append(x.unseen(1));
        return all.toString();
    }

    /** How places and threads are, and the row. */
    static String how(WaitPlaces x) {
        StringBuilder all = new StringBuilder();
        for (int p = 0; p < 3; p++) all.append(Check.place(x, p)).append(' ');
        for (int t = 0; t < 4 && t < x.count(0); t++) all.append(Check.thread(x, t)).append(' ');
        for (int k = 0; k < 4; k++) all.append(x.row(k)).append(' ');
        return all.append("found ").append(x.count(2)).toString();
    }
}
