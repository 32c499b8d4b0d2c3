/** For each promise of the document answers worked out by hand: ordinary inputs, the edges, wrong inputs. */
public final class PromiseTest {
    private static final int BAD = -1, STATE = -2, FULL = -3, NONE = -9;
    private static final int LOW = Integer.MIN_VALUE, HIGH = Integer.MAX_VALUE;
    /** By a search over drawn texts: 3000 states, 79 ends, all stuck; and 3001 states. */
    private static final String JUST_FITS = "tk0 1i0u1u1w1 0;ts0 1i1i0;tb1 1s0 0l1s0 1b1 0;tl1b0 1q1 0k0 2i1;";
    private static final String ONE_TOO_MANY = "ts0 0k0 3b0 0;tq0 2b0 0q0 2;ti0b0 1q0 1q0 1u0;tw0 1u0u0;";

    private PromiseTest() {
    }

    public static void main(String[] args) {
        newObject();
        type();
        clear();
        threadsCountItems();
        threadsFaults();
        threadsTellAnew();
        threadsRefusedChangeNothing();
        place();
        thread();
        lentRanks();
        row();
        stepValues();
        stepWaits();
        stepWakes();
        stepOwners();
        stepChains();
        stepDies();
        stepRefused();
        undo();
        all();
        worst();
        can();
        slept();
        tooManyStates();
        sees();
        forget();
        unseen();
        keepAndBack();
        count();
        Check.end("PromiseTest");
    }

    private static void due(String what, int got, int want) {
        Check.due(what, got, want);
    }

    private static void duePlace(String what, WaitPlaces x, int p, String want) {
        Check.duePlace(what, x, p, want);
    }

    private static void dueThread(String what, WaitPlaces x, int t, String want) {
        Check.dueThread(what, x, t, want);
    }

    private static void newObject() {
        WaitPlaces x = new WaitPlaces();
        for (int what = 0; what < 6; what++) due("new: count(" + what + ")", x.count(what), 0);
        for (int p = 0; p < 3; p++) duePlace("new", x, p, "0-000");
        due("new: thread", x.thread(0, 0), BAD);
        due("new: row", x.row(0), NONE);
        due("new: step", x.step(0), BAD);
        due("new: undo", x.undo(), STATE);
        due("new: back(0)", x.back(0), STATE);
        due("new: back(1)", x.back(1), STATE);
        due("new: states", x.all(0), 1);
        due("new: ends", x.all(1), 1);
        due("new: stuck", x.all(2), 0);
        due("new: fewest steps", x.all(3), 0);
        due("new: worst", x.worst(-1), NONE);
        due("new: final", x.can(0, 0), 1);
        due("new: owned", x.can(0, 1), 0);
        due("new: slept", x.slept(), 0);
        due("new: unseen", x.unseen(0), 1);
        due("BAD", WaitPlaces.BAD, -1);
        due("STATE", WaitPlaces.STATE, -2);
        due("FULL", WaitPlaces.FULL, -3);
        due("NONE", WaitPlaces.NONE, -9);
    }

    private static void type() {
        WaitPlaces x = new WaitPlaces();
        due("type(-1)", x.type(-1), BAD);
        due("type(256)", x.type(256), BAD);
        due("type(LOW)", x.type(LOW), BAD);
        due("type(HIGH)", x.type(HIGH), BAD);
        due("type(0)", x.type(0), 1);
        due("type(255)", x.type(255), 2);
        for (int n = 3; n <= 120; n++) due("type " + n, x.type(' '), n);
        due("type at 120", x.type(' '), FULL);
        due("type at 120, BAD first", x.type(256), BAD);
        due("letters at 120", x.count(4), 120);
        due("clear of 120", x.clear(), 120);
        due("type behind clear", x.type(';'), 1);
    }

    private static void clear() {
        WaitPlaces x = Check.told("v0 2;ti0i0;");
        x.step(0);
        x.sees(1, 1);
        x.keep(0);
        due("clear of nothing", x.clear(), 0);
        Check.type(x, "v1 1;");
        due("clear of 5", x.clear(), 5);
        due("clear again", x.clear(), 0);
        due("clear keeps threads", x.count(0), 1);
        due("clear keeps steps", x.count(5), 1);
        due("clear keeps SEEN", x.count(3), 1);
        due("clear keeps values", x.place(0, 0), 3);
        due("clear keeps images", x.back(0), 1);
        due("an empty text tells no items", x.threads(), 0);
    }

    private static void threadsCountItems() {
        WaitPlaces x = new WaitPlaces();
        due("empty", Check.tell(x, ""), 0);
        due("blanks", Check.tell(x, "   "), 0);
        due("text is empty then", x.count(4), 0);
        due("one thread without operations", Check.tell(x, "t;"), 1);
        due("it is one", x.count(0), 1);
        due("all operations", Check.tell(x, "ts0 0i1w2 3b0 1k1 1;tk0 2k0 3q0 1q2 0l0;tu2x;v2 3;r1 3;"), 5);
        due("three threads", x.count(0), 3);
        due("many blanks", Check.tell(x, "  v  0  1  ;  t  i  0  ;  r  0  3  ; "), 3);
        due("value told", x.place(0, 0), 1);
        due("rank told", x.thread(0, 3), 3);
        due("four threads of five", Check.tell(x, "txxxxx;txxxxx;txxxxx;txxxxx;"), 4);
        due("four", x.count(0), 4);
        due("values, ranks told again", Check.tell(x, "v1 1;v1 2;t;r0 3;r0 1;v1 0;v1 3;"), 7);
        due("value told last", x.place(1, 0), 3);
        due("rank told last", x.thread(0, 3), 1);
        StringBuilder full = new StringBuilder();
        for (int i = 0; i < 24; i++) full.append("v0 " + i % 4 + ";");
        due("120 letters", Check.tell(x, full.toString()), 24);
        due("the 24th", x.place(0, 0), 3);
    }

    private static void fault(String text, int at) {
        WaitPlaces x = new WaitPlaces();
        due("fault of '" + text + "'", Check.tell(x, text), -10 - at);
        due("letters behind the fault of '" + text + "'", x.count(4), text.length());
    }

    private static void threadsFaults() {
        fault("y", 0);
        fault(";", 0);
        fault("0", 0);
        fault("s0 0;", 0);
        fault(" v", 2);
        fault("v  ", 3);
        fault("v0", 2);
        fault("v0 1", 4);
        fault("v0 1 ", 5);
        fault("v0 1 v", 5);
        fault("v3 0;", 1);
        fault("v0 4;", 3);
        fault("v0 00;", 3);
        fault("v01;", 1);
        fault("v10 1;", 1);
        fault("v19 1;", 1);
        fault("v9 1;", 1);
        fault("v0 12345678901234567890;", 3);
        fault("v0 1 2;", 5);
        fault("v;", 1);
        fault("r0 0;", 1);
        fault("t;r1 0;", 3);
        fault("t;r0 4;", 5);
        fault("r0 0;t;", 1);
        fault("r t;", 2);
        fault("t;r0 t;", 5);
        fault("v t;", 2);
        fault("v0 t;", 3);
        fault("t", 1);
        fault("t t", 2);
        fault("tv0 1;", 1);
        fault("t0;", 1);
        fault("tl", 2);
        fault("tl;", 2);
        fault("tl3;", 2);
        fault("tl0 1;", 4);
        fault("tu3;", 2);
        fault("ti3;", 2);
        fault("tx0;", 2);
        fault("ts0;", 3);
        fault("ts3 0;", 2);
        fault("ts0 4;", 4);
        fault("tw0 4;", 4);
        fault("tb0 4;", 4);
        fault("tk0 0;", 4);
        fault("tk0 4;", 4);
        fault("tq0 0;", 4);
        fault("tq2 2;", 4);
        fault("tq0 3;", 4);
        fault("tq0", 3);
        fault("tq0;", 3);
        fault("txxxxxx;", 6);
        fault("txxxxx  i0;", 8);
        fault("txxxxx", 6);
        fault("t;t;t;t;t;", 8);
        fault("t;t;t;t; t", 9);
        fault("t;V0 1;", 2);
        fault("t;\t", 2);
        fault("t;" + (char) 0, 2);
        fault("t;" + (char) 255, 2);
        fault("v0-1;", 2);
        fault("v0 1;" + "v1 2;" + "z", 10);
        fault("v3 0;y", 1);
        WaitPlaces x = new WaitPlaces();
        due("a number of two digits", Check.tell(x, "v0 12;"), -13);
        due("letters that were cleared are gone", Check.tell(x, "v0 1"), -14);
        StringBuilder digits = new StringBuilder("v0 ");
        while (digits.length() < 120) digits.append('1');
        due("digits up to the last letter", Check.tell(x, digits.toString()), -13);
    }

    private static void threadsTellAnew() {
        WaitPlaces x = Check.told("v0 3;tl0xi0;tl0;r1 2;");
        Check.steps(x, "010");
        x.keep(0);
        x.keep(1);
        x.sees(0, 0);
        due("found ahead", x.count(2), 1);
        due("told anew", Check.tell(x, "ti1;"), 1);
        due("threads anew", x.count(0), 1);
        due("row anew", x.count(1), 0);
        due("found anew", x.count(2), 0);
        due("SEEN anew", x.count(3), 0);
        due("undo anew", x.undo(), STATE);
        due("image 0 is gone", x.back(0), STATE);
        due("image 1 is gone", x.back(1), STATE);
        for (int p = 0; p < 3; p++) duePlace("anew", x, p, "0-000");
        dueThread("anew", x, 0, "00-000");
        due("states anew", x.all(0), 2);
        due("no thread 1", x.thread(1, 0), BAD);
        due("values and ranks", Check.tell(x, "v0 1;v1 2;v2 3;t;t;t;t;r0 3;r1 2;r2 1;r3 3;"), 11);
        for (int n = 0; n < 2; n++) {
            due("all but values and ranks", Check.tell(x, "tw0 0;tl0;tl0xi0;tb1 0;"), 4);
            for (int p = 0; p < 3; p++) duePlace("not told", x, p, "0-000");
            for (int t = 0; t < 4; t++) dueThread("not told", x, t, "00-000");
            Check.dueRow("not told", x, "");
            Check.steps(x, n == 0 ? "2103" : "223");
        }
        due("the same again, place 0 dead", Check.tell(x, "tw0 0;tl0;tl0xi0;tb1 0;"), 4);
        for (int p = 0; p < 3; p++) duePlace("no more dead", x, p, "0-000");
        for (int t = 0; t < 4; t++) dueThread("no more between", x, t, "00-000");
        due("empty text", Check.tell(x, ""), 0);
        due("no threads", x.count(0), 0);
        due("one state", x.all(0), 1);
    }

    private static void threadsRefusedChangeNothing() {
        WaitPlaces x = Check.told("v0 3;tl0xi0;tl0l1;r1 2;");
        Check.steps(x, "01");
        x.keep(0);
        x.sees(0, 0);
        due("refused", Check.tell(x, "v0 1;v1 1;r0 1;"), -21);
        due("text stays", x.count(4), 15);
        due("SEEN stays", x.count(3), 1);
        due("undo stays", x.count(5), 2);
        duePlace("refused", x, 0, "30001");
        duePlace("refused", x, 1, "0-000");
        dueThread("refused", x, 0, "10-020");
        dueThread("refused", x, 1, "020220");
        due("step as told before", x.step(0), 2);
        due("found", x.count(2), 1);
        due("image stays", x.back(0), 2);
    }

    private static void place() {
        WaitPlaces x = Check.told("v0 1;tw0 1;tb0 1l2;tl0;tl0l2x;");
        Check.steps(x, "32");
        Check.steps(x, "0113");
        duePlace("asleep and waiting", x, 0, "13021");
        duePlace("untouched", x, 1, "0-000");
        duePlace("owned", x, 2, "03000");
        x.step(3);
        duePlace("handed on", x, 0, "12020");
        duePlace("dead", x, 2, "0-100");
        due("place(-1, 0)", x.place(-1, 0), BAD);
        due("place(3, 0)", x.place(3, 0), BAD);
        due("place(0, -1)", x.place(0, -1), BAD);
        due("place(0, 5)", x.place(0, 5), BAD);
        due("place(LOW, HIGH)", x.place(LOW, HIGH), BAD);
        due("place(HIGH, LOW)", x.place(HIGH, LOW), BAD);
    }

    private static void thread() {
        WaitPlaces x = Check.told("tb1 0i0;tl2;tl2;t;r1 1;r2 3;");
        dueThread("at first", x, 0, "00-000");
        dueThread("no operations", x, 3, "03-000");
        x.step(0);
        dueThread("between", x, 0, "00-001");
        x.step(0);
        dueThread("asleep", x, 0, "011000");
        Check.steps(x, "12");
        dueThread("done, and lent to", x, 1, "13-130");
        dueThread("waits", x, 2, "022330");
        due("thread(-1, 0)", x.thread(-1, 0), BAD);
        due("thread(4, 0)", x.thread(4, 0), BAD);
        due("thread(0, -1)", x.thread(0, -1), BAD);
        due("thread(0, 6)", x.thread(0, 6), BAD);
        due("thread(LOW, 0)", x.thread(LOW, 0), BAD);
        due("thread(0, HIGH)", x.thread(0, HIGH), BAD);
        due("two told", Check.tell(x, "t;t;"), 2);
        due("thread(2, 0)", x.thread(2, 0), BAD);
    }

    private static void lentRanks() {
        WaitPlaces x = Check.told("tl0u0;tl1l0;tl2l1;tl2;r0 1;r3 3;");
        Check.steps(x, "012");
        Check.steps(x, "12");
        due("lent within a chain, no one high", x.thread(0, 4), 1);
        Check.steps(x, "3");
        for (int t = 0; t < 4; t++) due("lent along the chain to " + t, x.thread(t, 4), 3);
        due("own rank stays", x.thread(0, 3), 1);
        Check.steps(x, "0");
        due("no more lent to 0", x.thread(0, 4), 1);
        due("still lent to 1", x.thread(1, 4), 3);
        WaitPlaces y = Check.told("tw0 0;tl0u0;r0 3;");
        Check.steps(y, "10");
        due("a sleeper lends nothing", y.thread(1, 4), 0);
        Check.steps(y, "1");
        due("a sleeper gets nothing", y.place(0, 1), NONE);
        due("it sleeps on", y.thread(0, 1), 1);
        WaitPlaces z = Check.told("tl2;tl2l1;tl1l0;tl0;r0 3;");
        Check.steps(z, "321");
        Check.steps(z, "012");
        for (int t = 0; t < 4; t++) due("lent the other way round to " + t, z.thread(t, 4), 3);
    }

    private static void row() {
        WaitPlaces x = Check.told("tw0 0;tl0;tb1 0;tl0k1 1;");
        Check.dueRow("at first", x, "");
        Check.steps(x, "32120");
        Check.dueRow("sleepers and waiters in one", x, "120");
        due("row(3)", x.row(3), NONE);
        due("row(4)", x.row(4), NONE);
        due("row(HIGH)", x.row(HIGH), NONE);
        due("row(-1)", x.row(-1), BAD);
        due("row(LOW)", x.row(LOW), BAD);
        x.step(3);
        Check.dueRow("one has gone from the middle", x, "10");
    }

    private static void stepValues() {
        WaitPlaces x = Check.told("ts0 3i0i0s2 2i1;");
        int[][] values = {{3, 0, 0}, {0, 0, 0}, {1, 0, 0}, {1, 0, 2}, {1, 1, 2}};
        for (int n = 0; n < 5; n++) {
            due("step " + n, x.step(0), n + 1);
            for (int p = 0; p < 3; p++) due("value " + p + " behind step " + n, x.place(p, 0), values[n][p]);
        }
        dueThread("program is over", x, 0, "53-000");
    }

    private static void stepWaits() {
        WaitPlaces x = Check.told("tw0 0i1;tw0 1i1;tb0 1i1;tb0 0i1;");
        due("w, value is so", x.step(0), 0);
        dueThread("asleep", x, 0, "010000");
        due("w, value is another", x.step(1), 1);
        dueThread("goes on", x, 1, "10-000");
        due("b, value is another", x.step(2), 1);
        dueThread("goes on at once", x, 2, "10-000");
        due("b, value is so", x.step(3), 0);
        dueThread("between", x, 3, "00-001");
        WaitPlaces y = Check.told("tb0 0i1;ti0k0 3;");
        Check.steps(y, "011");
        due("b sleeps whatever the value is then", y.step(0), 0);
        due("too late to be woken", y.thread(0, 1), 1);
        due("the value", y.place(0, 0), 1);
    }

    private static void stepWakes() {
        WaitPlaces x = Check.told("tw0 0;tb0 0i2;tw0 0i1;tk0 1k0 3k0 2;");
        Check.steps(x, "2110");
        Check.dueRow("asleep", x, "210");
        due("k wakes one", x.step(3), 1);
        Check.dueRow("the first is awake", x, "10");
        dueThread("woken goes on behind its w", x, 2, "10-000");
        due("k wakes up to three", x.step(3), 2);
        Check.dueRow("none is left", x, "");
        dueThread("woken behind its b", x, 1, "10-000");
        dueThread("woken, its program is over", x, 0, "13-000");
        due("k wakes nobody", x.step(3), 3);

        WaitPlaces y = Check.told("tw0 0;tw1 0;tw0 0;tq0 1k1 1;");
        Check.steps(y, "012");
        due("q", y.step(3), 1);
        Check.dueRow("order stays", y, "12");
        due("moved", y.thread(2, 2), 1);
        due("woken by q", y.thread(0, 1), 3);
        due("asleep at 1", y.place(1, 3), 2);
        due("asleep at 0", y.place(0, 3), 0);
        Check.steps(y, "3");
        Check.dueRow("the first of the row", y, "2");

        WaitPlaces z = Check.told("tw0 0;tw1 0;tw0 0;tq0 1k1 1;");
        Check.steps(z, "0213");
        Check.dueRow("the moved one is ahead", z, "21");
        Check.steps(z, "3");
        Check.dueRow("and is woken first", z, "1");

        WaitPlaces w = Check.told("tl0;tl0;tk0 3q0 1;tk1 1;");
        Check.steps(w, "01");
        Check.steps(w, "223");
        Check.dueRow("k and q leave those that WAIT", w, "1");
        due("it WAITS for the same", w.thread(1, 2), 0);
    }

    private static void stepOwners() {
        WaitPlaces x = Check.told("tl0u0;tl0l0u0;tl0u0;tl0;r1 1;r2 2;r3 2;");
        due("l of a free one", x.step(0), 1);
        due("owner", x.place(0, 1), 0);
        due("l waits", x.step(1), 0);
        Check.steps(x, "23");
        Check.dueRow("three wait", x, "123");
        due("u hands on", x.step(0), 2);
        due("the highest, of two the first", x.place(0, 1), 2);
        dueThread("awake behind its l", x, 2, "10-220");
        due("two wait", x.place(0, 4), 2);
        due("next u", x.step(2), 2);
        due("the next highest", x.place(0, 1), 3);
        dueThread("done, yet owns", x, 3, "13-220");
        Check.dueRow("one waits for ever", x, "1");

        WaitPlaces y = Check.told("tu0l0l0u0u0;");
        due("u of what it does not own", y.step(0), 1);
        due("nobody's", y.place(0, 1), NONE);
        due("l", y.step(0), 2);
        due("l of its own", y.step(0), 3);
        due("still its own", y.place(0, 1), 0);
        due("u", y.step(0), 4);
        due("free again, though locked twice", y.place(0, 1), NONE);
        due("u again", y.step(0), 5);

        WaitPlaces z = Check.told("tl0u0;tl1u0l0u0;tl0;tl1;r3 3;r2 2;");
        Check.steps(z, "011");
        due("u of another's changes nothing", z.place(0, 1), 0);
        Check.steps(z, "213");
        due("lent beats own", z.thread(1, 4), 3);
        Check.steps(z, "0");
        due("handed on by LENT RANK", z.place(0, 1), 1);
    }

    private static void stepChains() {
        WaitPlaces x = Check.told("tl0l1;tl1l0u0;");
        Check.steps(x, "010");
        dueThread("waits", x, 0, "121000");
        due("its owner waits for mine: goes on without", x.step(1), 2);
        due("owner stays", x.place(0, 1), 0);
        due("awake", x.thread(1, 1), 0);

        WaitPlaces y = Check.told("tl0l1;tl1l2;tl2l0i0;tl0;");
        Check.steps(y, "012");
        Check.steps(y, "01");
        due("a chain of three: goes on without", y.step(2), 2);
        due("awake behind the chain", y.thread(2, 1), 0);
        due("one outside waits", y.step(3), 0);
        due("it WAITS", y.thread(3, 1), 2);

        WaitPlaces z = Check.told("tl0w1 0;tl2l0;tw1 0;");
        Check.steps(z, "010");
        Check.steps(z, "1");
        due("a chain that ends with a sleeper is waited for", z.thread(1, 1), 2);
    }

    private static void stepDies() {
        WaitPlaces x = Check.told("tl0l1xi2i2;tl0;tl0u0;tl1l2;r2 1;");
        Check.steps(x, "0012");
        due("x", x.step(0), 3);
        dueThread("done by x", x, 0, "33-000");
        duePlace("handed on, not dead", x, 0, "02001");
        duePlace("dead, nobody waited", x, 1, "0-100");
        due("found by the one that got it", x.count(2), 1);
        due("no step behind x", x.step(0), STATE);
        due("l of a dead one", x.step(3), 1);
        duePlace("not dead any more", x, 1, "03000");
        due("found twice", x.count(2), 2);
        due("l of one that never died", x.step(3), 2);
        due("found still twice", x.count(2), 2);
        due("u of one that was dead", x.step(2), 2);
        duePlace("it is not dead by u", x, 0, "01000");
        due("no more found", x.count(2), 2);

        WaitPlaces y = Check.told("tl0l1x;tl0;tl1;");
        Check.steps(y, "0012");
        Check.dueRow("both wait", y, "12");
        Check.steps(y, "0");
        due("place 0 to 1", y.place(0, 1), 1);
        due("place 1 to 2", y.place(1, 1), 2);
        due("both found", y.count(2), 2);
        Check.dueRow("none waits", y, "");

        WaitPlaces z = Check.told("tl0;tl0;tx;");
        Check.steps(z, "012");
        due("who is done without x owns on", z.place(0, 1), 0);
        due("x of one that owns nothing", z.count(2), 0);
    }

    private static void stepRefused() {
        WaitPlaces x = Check.told("tw0 0;tl0;tl0;t;");
        due("step(-1)", x.step(-1), BAD);
        due("step(4)", x.step(4), BAD);
        due("step(LOW)", x.step(LOW), BAD);
        due("step(HIGH)", x.step(HIGH), BAD);
        due("no operations", x.step(3), STATE);
        Check.steps(x, "012");
        due("asleep", x.step(0), STATE);
        due("done", x.step(1), STATE);
        due("waits", x.step(2), STATE);
        due("refused ones are not undone", x.count(5), 3);
    }

    private static void undo() {
        WaitPlaces x = Check.told("ti0i0i0i0i0;ti1i1i1i1i1;ti2i2i2i2i2;");
        due("nothing to undo", x.undo(), STATE);
        for (int n = 1; n <= 15; n++) {
            Check.steps(x, "" + n % 3);
            due("undoable behind " + n, x.count(5), Math.min(n, 12));
        }
        for (int n = 11; n >= 0; n--) due("undo to " + n, x.undo(), n);
        due("older ones are lost", x.undo(), STATE);
        for (int p = 0; p < 3; p++) due("value " + p + " behind three steps", x.place(p, 0), 1);
        due("step behind undo", x.step(0), 2);
        due("undo of that", x.undo(), 0);
        due("value as before", x.place(0, 0), 1);

        WaitPlaces y = Check.told("tl0l1x;tl0b2 0;tw1 0;r1 2;");
        Check.steps(y, "00210");
        due("found", y.count(2), 1);
        y.step(1);
        dueThread("between", y, 1, "10-221");
        due("undo of b", y.undo(), 5);
        dueThread("not between", y, 1, "10-220");
        due("undo of x", y.undo(), 4);
        due("not found", y.count(2), 0);
        duePlace("owned again", y, 0, "00001");
        duePlace("owned again", y, 1, "00010");
        dueThread("awake again", y, 0, "20-020");
        dueThread("waits again", y, 1, "020220");
        Check.dueRow("the row again", y, "21");
        due("all() behind undo", y.all(3), 3);
    }

    private static void all() {
        WaitPlaces x = Check.told("ti0;ti0;");
        due("states of two", x.all(0), 4);
        due("ends of two", x.all(1), 1);
        due("stuck of two", x.all(2), 0);
        due("fewest of two", x.all(3), 2);
        x.step(1);
        due("states from now on", x.all(0), 2);
        due("fewest from now on", x.all(3), 1);
        Check.tell(x, "ts0 1;ts0 2;");
        due("states by the last value", x.all(0), 5);
        due("ends by the last value", x.all(1), 2);
        Check.tell(x, "tw0 0;tw0 0;");
        due("states by the row", x.all(0), 5);
        due("ends by the row", x.all(1), 2);
        due("stuck by the row", x.all(2), 2);
        Check.tell(x, "tw0 0;ti0;tl0x;");
        due("fewest with a sleeper", x.all(3), 4);
        Check.tell(x, "tb0 0;");
        due("b has three states", x.all(0), 3);
        Check.tell(x, "tl0x;tl1x;");
        due("found does not count", x.all(0), 9);
        Check.tell(x, "tl0x;tl0;");
        due("dead ones count", x.all(0), 7);
        due("an owner that is done, or two that were found", x.all(1), 2);
        due("all(-1)", x.all(-1), BAD);
        due("all(4)", x.all(4), BAD);
        due("all(LOW)", x.all(LOW), BAD);
        due("all(HIGH)", x.all(HIGH), BAD);
    }

    private static void worst() {
        WaitPlaces x = Check.told("ti0;ti0;");
        due("none stuck", x.worst(-1), NONE);
        due("none stuck, first thread", x.worst(0), NONE);
        Check.tell(x, "ti1w0 0;ts0 1;ts0 1i2;");
        Check.dueWorst("the least of those as short", x, "00122");
        due("behind its end", x.worst(5), NONE);
        due("far behind its end", x.worst(HIGH), NONE);
        due("worst(-2)", x.worst(-2), BAD);
        due("worst(LOW)", x.worst(LOW), BAD);
        x.step(2);
        Check.dueWorst("a value that was set", x, "none");
        x.undo();
        Check.tell(x, "tw0 0;");
        x.step(0);
        due("stuck now: no steps", x.worst(-1), 0);
        due("stuck now: no thread", x.worst(0), NONE);
        Check.tell(x, "tl1u1;tw0 0;tl0l1w2 0;");
        Check.dueWorst("the shortest, though a longer one comes first thread by thread", x, "12202");
        Check.tell(x, "tk0 1;ti1k0 2;tw0 0;");
        Check.dueWorst("wakes that come too early", x, "0112");
    }

    private static void can() {
        WaitPlaces x = Check.told("v2 3;ts0 1;ts0 2;tl1u1;");
        due("final of 0", x.can(0, 0), 6);
        due("final of 1", x.can(1, 0), 1);
        due("final of 2", x.can(2, 0), 8);
        due("owned 0", x.can(0, 1), 0);
        due("owned 1, though none owns it at the end", x.can(1, 1), 4);
        Check.tell(x, "ts0 3s0 1;tl0;tl0u0;tw0 3;");
        due("only values at an end", x.can(0, 0), 2);
        due("two can own it", x.can(0, 1), 6);
        Check.steps(x, "1");
        due("from now on the other can't", x.can(0, 1), 2);
        due("can(-1, 0)", x.can(-1, 0), BAD);
        due("can(3, 0)", x.can(3, 0), BAD);
        due("can(0, -1)", x.can(0, -1), BAD);
        due("can(0, 2)", x.can(0, 2), BAD);
        due("can(HIGH, LOW)", x.can(HIGH, LOW), BAD);
    }

    private static void slept() {
        WaitPlaces x = Check.told("ti0;tw0 0;tl1;tl1;");
        due("who sleeps, who waits", x.slept(), 14);
        Check.tell(x, "tw0 0;tk0 1i0;");
        due("woken or not", x.slept(), 1);
        Check.tell(x, "tl0u0;tl0u0;");
        due("those that wait for a while don't count", x.slept(), 0);
    }

    private static void tooManyStates() {
        WaitPlaces x = Check.told(JUST_FITS);
        due("3000 states", x.all(0), 3000);
        due("their ends", x.all(1), 79);
        due("their stuck ones", x.all(2), 79);
        Check.tell(x, ONE_TOO_MANY);
        for (int what = 0; what < 4; what++) due("all(" + what + ") of 3001", x.all(what), FULL);
        due("all: BAD first", x.all(4), BAD);
        due("worst(-1) of 3001", x.worst(-1), FULL);
        due("worst(0) of 3001", x.worst(0), FULL);
        due("worst: BAD first", x.worst(-2), BAD);
        due("can(0, 0) of 3001", x.can(0, 0), FULL);
        due("can(2, 1) of 3001", x.can(2, 1), FULL);
        due("can: BAD first", x.can(3, 0), BAD);
        due("slept of 3001", x.slept(), FULL);
        due("unseen(0) of 3001", x.unseen(0), FULL);
        due("unseen(1) of 3001", x.unseen(1), FULL);
        due("unseen: BAD first", x.unseen(2), BAD);
        due("sees goes over none", x.sees(0, 0), 1);
        due("step of 3001", x.step(0), 1);
        due("fewer from now on", x.all(0) < 3001 && x.all(0) > 0 ? 1 : 0, 1);
        due("undo of 3001", x.undo(), 0);
        due("too many again", x.all(0), FULL);
    }

    private static void sees() {
        WaitPlaces x = new WaitPlaces();
        due("sees(-1, 0)", x.sees(-1, 0), BAD);
        due("sees(3, 0)", x.sees(3, 0), BAD);
        due("sees(0, -1)", x.sees(0, -1), BAD);
        due("sees(0, 4)", x.sees(0, 4), BAD);
        due("sees(LOW, HIGH)", x.sees(LOW, HIGH), BAD);
        for (int n = 1; n <= 6; n++) due("sees " + n, x.sees(n % 3, n % 4), n);
        due("sees 7", x.sees(0, 0), FULL);
        due("sees: BAD first", x.sees(0, 4), BAD);
        due("six", x.count(3), 6);
    }

    private static void forget() {
        WaitPlaces x = Check.told("ts0 1;ts0 2;");
        due("forget nothing", x.forget(), 0);
        x.sees(0, 3);
        x.sees(1, 0);
        due("nothing fits", x.unseen(0), 0);
        due("forget two", x.forget(), 2);
        due("nothing is SEEN", x.count(3), 0);
        due("all fit again", x.unseen(0), 2);
        for (int n = 1; n <= 6; n++) due("sees behind forget " + n, x.sees(0, 1), n);
        due("forget six", x.forget(), 6);
        due("forget again", x.forget(), 0);
    }

    private static void unseen() {
        WaitPlaces x = Check.told("ts0 1;ts0 2;tw0 2;");
        due("all ends", x.unseen(0), 4);
        due("all stuck ones", x.unseen(1), 2);
        x.sees(0, 1);
        due("ends with 1", x.unseen(0), 2);
        due("stuck ones with 1", x.unseen(1), 1);
        x.sees(1, 0);
        due("both so", x.unseen(0), 2);
        x.sees(0, 2);
        due("told against each other", x.unseen(0), 0);
        due("stuck, told against each other", x.unseen(1), 0);
        x.forget();
        x.sees(0, 2);
        Check.steps(x, "20");
        due("from now on, SEEN stays", x.unseen(0), 1);
        due("none stuck", x.unseen(1), 0);
        due("unseen(-1)", x.unseen(-1), BAD);
        due("unseen(2)", x.unseen(2), BAD);
        due("unseen(LOW)", x.unseen(LOW), BAD);
    }

    private static void keepAndBack() {
        WaitPlaces x = new WaitPlaces();
        due("keep without threads", x.keep(1), 0);
        due("back without threads", x.back(1), 0);
        due("the other was not kept", x.back(0), STATE);
        Check.tell(x, "v1 1;tl0l1xi2;tl0b2 0;tw1 1;r1 2;");
        due("keep at first", x.keep(0), 3);
        Check.steps(x, "00210");
        Check.steps(x, "1");
        due("keep", x.keep(1), 3);
        x.sees(0, 0);
        Check.type(x, "t;");
        due("keep leaves what can be undone", x.count(5), 6);
        due("back to the first", x.back(0), 3);
        duePlace("at first", x, 0, "0-000");
        duePlace("at first", x, 1, "1-000");
        dueThread("at first", x, 0, "00-000");
        Check.dueRow("at first", x, "");
        due("not found yet", x.count(2), 0);
        due("nothing can be undone", x.undo(), STATE);
        due("SEEN stays", x.count(3), 1);
        due("the text stays", x.count(4), 2);
        int states = x.all(0);
        due("back to the other", x.back(1), 3);
        due("found", x.count(2), 1);
        duePlace("handed on", x, 0, "01000");
        duePlace("dead", x, 1, "1-110");
        dueThread("died", x, 0, "33-000");
        dueThread("between", x, 1, "10-221");
        dueThread("asleep", x, 2, "011000");
        Check.dueRow("one sleeps", x, "2");
        due("states of the image", x.all(0), 2);
        Check.steps(x, "1");
        due("an image may be had again", x.back(1), 3);
        dueThread("between again", x, 1, "10-221");
        due("back to the first again", x.back(0), 3);
        due("as many states as before", x.all(0), states);
        due("keep anew", x.keep(1), 3);
        x.step(0);
        due("back to what was kept last", x.back(1), 3);
        dueThread("kept last", x, 0, "00-000");
        due("keep(-1)", x.keep(-1), BAD);
        due("keep(2)", x.keep(2), BAD);
        due("keep(HIGH)", x.keep(HIGH), BAD);
        due("back(-1)", x.back(-1), BAD);
        due("back(2)", x.back(2), BAD);
        due("back(LOW)", x.back(LOW), BAD);
    }

    private static void count() {
        WaitPlaces x = Check.told("tl0x;tl0;tw0 0;");
        Check.steps(x, "0120");
        x.sees(0, 0);
        x.sees(0, 0);
        Check.type(x, "v0 ");
        int[] want = {3, 1, 1, 2, 3, 4};
        for (int what = 0; what < 6; what++) due("count(" + what + ")", x.count(what), want[what]);
        due("count(-1)", x.count(-1), BAD);
        due("count(6)", x.count(6), BAD);
        due("count(LOW)", x.count(LOW), BAD);
        due("count(HIGH)", x.count(HIGH), BAD);
    }
}
