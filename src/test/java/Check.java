/** What the tests share: answers that are due, and texts told letter by letter. */
final class Check {
    private static final int NONE = -9;
    private static int answers = 0;
    private static int wrong = 0;
    private static String heading = "";

    private Check() {
    }

    static void due(String what, long got, long want) {
        answers++;
        if (got == want) return;
        wrong++;
        if (wrong <= 50) System.out.println(heading + what + " answered " + got + ", due is " + want);
    }

    static void same(String what, String got, String want) {
        due(what + ": is '" + got + "', due is '" + want + "'; same", got.equals(want) ? 1 : 0, 1);
    }

    /** What stands ahead of each wrong answer from here on. */
    static void head(String words) {
        heading = words;
    }

    static int answers() {
        return answers;
    }

    static int wrong() {
        return wrong;
    }

    static void type(WaitPlaces x, String text) {
        for (int i = 0; i < text.length(); i++) x.type(text.charAt(i));
    }

    /** A text told anew: what threads() answers. */
    static int tell(WaitPlaces x, String text) {
        x.clear();
        type(x, text);
        return x.threads();
    }

    static WaitPlaces told(String text) {
        WaitPlaces x = new WaitPlaces();
        int items = tell(x, text);
        if (items < 0) due("threads() of '" + text + "'", items, 0);
        return x;
    }

    /** Steps of threads, one digit each; none may be refused. */
    static void steps(WaitPlaces x, String threads) {
        for (int i = 0; i < threads.length(); i++) {
            int answer = x.step(threads.charAt(i) - '0');
            if (answer < 0) due("step " + i + " of '" + threads + "'", answer, 0);
        }
    }

    /** Digits of place(p, 0 .. 4), with '-' for NONE. */
    static String place(WaitPlaces x, int p) {
        StringBuilder all = new StringBuilder();
        for (int what = 0; what < 5; what++) all.append(sign(x.place(p, what)));
        return all.toString();
    }

    /** Digits of thread(t, 0 .. 5), with '-' for NONE. */
    static String thread(WaitPlaces x, int t) {
        StringBuilder all = new StringBuilder();
        for (int what = 0; what < 6; what++) all.append(sign(x.thread(t, what)));
        return all.toString();
    }

    private static String sign(int answer) {
        return answer == NONE ? "-" : "" + answer;
    }

    static void duePlace(String what, WaitPlaces x, int p, String want) {
        same(what + ": place " + p, place(x, p), want);
    }

    static void dueThread(String what, WaitPlaces x, int t, String want) {
        same(what + ": thread " + t, thread(x, t), want);
    }

    static String row(WaitPlaces x) {
        StringBuilder all = new StringBuilder();
        for (int k = 0; k < 4 && x.row(k) >= 0; k++) all.append(x.row(k));
        return all.toString();
    }

    static void dueRow(String what, WaitPlaces x, String want) {
        same(what + ": row", row(x), want);
        due(what + ": length of the row", x.count(1), want.length());
    }

    /** The way of worst() as digits, or "none". */
    static String worst(WaitPlaces x) {
        int steps = x.worst(-1);
        if (steps == NONE) return "none";
        StringBuilder way = new StringBuilder();
        for (int k = 0; k < steps; k++) way.append(x.worst(k));
        return way.toString();
    }

    static void dueWorst(String what, WaitPlaces x, String want) {
        same(what + ": worst", worst(x), want);
    }

    static void end(String name) {
        System.out.println(name + ": " + answers + " answers, " + wrong + " wrong");
        if (wrong != 0) System.exit(1);
    }
}
