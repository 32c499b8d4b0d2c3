/** Sentences about every interleaving and which end it was: terms, part 3, and promises 10 to 16. */
final class EveryBoundaries extends Boundaries {
    private static final int[] ODD = {-9, -100, 256, LOW, LOW + 1, HIGH};

    private EveryBoundaries() {
    }

    static void tests() {
        test(10, "(From NOW on; nothing is changed.)", EveryBoundaries::fromNowOn);
        test(10, "STATES: all that can be come to by STEPS in any order (NOW, too;", EveryBoundaries::nowIsAState);
        test(10, "two are the same, if VALUES,", EveryBoundaries::statesByValues);
        test(10, "OWNERS,", EveryBoundaries::statesByOwners);
        test(10, "DEAD ones,", EveryBoundaries::statesByDeadOnes);
        test(10, "how far each THREAD is,", EveryBoundaries::statesByHowFar);
        test(10, "how it is,", EveryBoundaries::statesByHow);
        test(10, "and THE ROW are the same;", EveryBoundaries::statesByTheRow);
        test(10, "how often one FOUND a PLACE DEAD does not count): how many.", EveryBoundaries::foundDoesNotCount);
        test(10, "ENDS: those in which no THREAD can STEP.", EveryBoundaries::ends);
        test(10, "STUCK: ENDS in which some THREAD is not DONE.", EveryBoundaries::stuckEnds);
        test(11, "WORST: the fewest STEPS to a STUCK one;", EveryBoundaries::worstIsShortest);
        test(11, "the THREADS that STEP, one behind the other (of several such rows the first, THREAD by THREAD);",
            EveryBoundaries::worstIsFirst);
        test(11, "THREAD by THREAD); NONE.", EveryBoundaries::noWorst);
        test(12, "FINAL of a PLACE: VALUES that it has in ENDS (bits).", EveryBoundaries::finals);
        test(12, "OWNED: THREADS (bits) that own a PLACE in any STATE.", EveryBoundaries::owned);
        test(13, "SLEPT: THREADS (bits) that are ASLEEP or WAIT in any STUCK one.", EveryBoundaries::slept);
        test(14, "SEEN (6 at most): in the END it came to, VALUE of a PLACE was told.", EveryBoundaries::sixSeen);
        test(16, "UNSEEN: ENDS by which all that was SEEN is so: how many; how many of these are STUCK.", EveryBoundaries::unseenEnds);
        test(10, "FULL (STATES: more than 3000:", EveryBoundaries::threeThousandStates);
        test(10, "all of 3 that goes over them).", EveryBoundaries::allThatGoesOverStates);

        test(10, "0 STATES, 1 ENDS, 2 STUCK ones,", EveryBoundaries::allCounts);
        test(10, "3 the fewest STEPS to an END.", EveryBoundaries::fewestSteps);
        test(10, "BAD;", EveryBoundaries::noSuchAll);
        test(10, "FULL.", EveryBoundaries::allFull);
        test(11, "WORST: how many STEPS (k = -1),", EveryBoundaries::worstLength);
        test(11, "the k-th THREAD (0 on);", EveryBoundaries::longestWorst);
        test(11, "NONE.", EveryBoundaries::behindTheWorst);
        test(11, "BAD: k below -1;", EveryBoundaries::noSuchWorst);
        test(11, "FULL.", EveryBoundaries::worstFull);
        test(12, "FINAL of a PLACE (what = 0),", EveryBoundaries::canFinal);
        test(12, "OWNED (1; bits of THREADS).", EveryBoundaries::canOwn);
        test(12, "BAD;", EveryBoundaries::noSuchCan);
        test(12, "FULL.", EveryBoundaries::canFull);
        test(13, "SLEPT (bits).", EveryBoundaries::sleptBits);
        test(13, "FULL.", EveryBoundaries::sleptFull);
        test(14, "SEEN: how much there is.", EveryBoundaries::seesAnswers);
        test(14, "BAD;", EveryBoundaries::noSuchSight);
        test(14, "FULL: 6.", EveryBoundaries::seesFull);
        test(15, "Nothing is SEEN: how much was.", EveryBoundaries::forget);
        test(16, "UNSEEN: how many (what = 0), STUCK ones (1).", EveryBoundaries::unseenAnswers);
        test(16, "BAD;", EveryBoundaries::noSuchUnseen);
        test(16, "FULL.", EveryBoundaries::unseenFull);
    }

    private static void dueAll(String what, WaitPlaces x, int states, int ends, int stuck, int fewest) {
        int[] want = {states, ends, stuck, fewest};
        for (int n = 0; n < 4; n++) due(what + ": all(" + n + ")", x.all(n), want[n]);
    }

    private static void fromNowOn() {
        WaitPlaces x = Check.told("ti0i0i0;tl1x;tl1w2 0;tb2 0;r2 1;");
        x.keep(1);
        Check.steps(x, "01");
        x.sees(0, 3);
        String ahead = look(x);
        Check.same("asked twice", look(x), ahead);
        due("what can be undone", x.count(5), 2);
        due("undo", x.undo(), 1);
        due("undo", x.undo(), 0);
        due("back", x.back(1), 4);
        WaitPlaces y = Check.told("ti0i0i0i0i0;");
        for (int n = 0; n <= 5; n++) {
            dueAll("behind " + n, y, 6 - n, 1, 0, 5 - n);
            due("unseen behind " + n, y.unseen(0), 1);
            if (n < 5) Check.steps(y, "0");
        }
        y.undo();
        dueAll("one undone", y, 2, 1, 0, 1);
        y.keep(0);
        y.undo();
        dueAll("two undone", y, 3, 1, 0, 2);
        y.back(0);
        dueAll("an image", y, 2, 1, 0, 1);
        y.threads();
        dueAll("told anew", y, 1, 1, 0, 0);
    }

    private static void nowIsAState() {
        WaitPlaces x = new WaitPlaces();
        dueAll("new", x, 1, 1, 0, 0);
        Check.tell(x, "t;t;t;t;");
        dueAll("all done", x, 1, 1, 0, 0);
        Check.tell(x, "tx;");
        dueAll("one step", x, 2, 1, 0, 1);
        Check.steps(x, "0");
        dueAll("no step", x, 1, 1, 0, 0);
        Check.tell(x, "ti0;ti1;ti2;ti0;");
        dueAll("any order", x, 16, 1, 0, 4);
    }

    private static void statesByValues() {
        WaitPlaces x = Check.told("ts0 1;ts0 2;");
        dueAll("who set it last", x, 5, 2, 0, 2);
        Check.tell(x, "ts2 1;ts2 1;");
        dueAll("set to the same", x, 4, 1, 0, 2);
        Check.tell(x, "ts0 0;ts0 1;ts0 2;ts0 3;");
        due("four values at the end", x.all(1), 4);
    }

    private static void statesByOwners() {
        WaitPlaces x = Check.told("tl0l1u0;tl1l0u1;");
        due("0 owns 1, 1 owns 0, or one of them waits for ever", x.all(1), 4);
        due("one of them waits for ever", x.all(2), 2);
        Check.steps(x, "01");
        due("0 owns 1, or 1 owns 0, both done", x.all(1), 2);
        due("none is stuck", x.all(2), 0);
    }

    private static void statesByDeadOnes() {
        WaitPlaces x = Check.told("tl0x;tl0u0;");
        due("dead at the end or not", x.all(1), 2);
        due("none is stuck", x.all(2), 0);
    }

    private static void statesByHowFar() {
        WaitPlaces x = new WaitPlaces();
        for (int n = 0; n <= 5; n++) {
            Check.tell(x, "t" + "u0".repeat(n) + ";");
            dueAll(n + " operations that change nothing", x, n + 1, 1, 0, n);
        }
    }

    private static void statesByHow() {
        WaitPlaces x = Check.told("tb0 0;");
        dueAll("ahead of b, between, asleep", x, 3, 1, 1, 2);
        Check.tell(x, "tw0 0;tw0 0;tq0 1;");
        due("asleep at 0 or at 1", x.all(1), 6);
    }

    private static void statesByTheRow() {
        WaitPlaces x = Check.told("tw0 0;tw1 0;");
        dueAll("two orders", x, 5, 2, 2, 2);
        Check.tell(x, "tw0 0;tw0 0;tw0 0;tw0 0;");
        dueAll("orders of four", x, 1 + 4 + 12 + 24 + 24, 24, 24, 4);
    }

    private static void foundDoesNotCount() {
        String text = "tl0l1x;tl1l0x;";
        String[] ways = {"000111", "010110"};
        int[] found = {2, 1};
        for (int n = 0; n < 2; n++) {
            WaitPlaces x = Check.told(text);
            due("one end", x.all(1), 1);
            Check.steps(x, ways[n]);
            due("found on the way " + ways[n], x.count(2), found[n]);
            Check.same("the same end", how(x).replaceAll(" found.*", ""), "0-100 0-100 0-000 33-000 33-000 -9 -9 -9 -9");
        }
    }

    private static void ends() {
        WaitPlaces x = new WaitPlaces();
        due("no threads", x.all(1), 1);
        Check.tell(x, "tw0 0;");
        Check.steps(x, "0");
        due("asleep", x.all(1), 1);
        Check.tell(x, "tl0;tl0;");
        Check.steps(x, "01");
        due("waits", x.all(1), 1);
        Check.tell(x, "tb0 0;");
        Check.steps(x, "0");
        dueAll("between is no end", x, 2, 1, 1, 1);
        Check.tell(x, "tw0 0;ti1;");
        Check.steps(x, "0");
        dueAll("one that can step is enough", x, 2, 1, 1, 1);
    }

    private static void stuckEnds() {
        WaitPlaces x = new WaitPlaces();
        due("no threads", x.all(2), 0);
        Check.tell(x, "t;ti0;tl0;tx;");
        due("all done", x.all(2), 0);
        Check.tell(x, "tw0 0;t;t;t;");
        due("one of four asleep", x.all(2), 1);
        Check.tell(x, "tl0;tl0;t;t;");
        due("one of two waits, either of them", x.all(2), 2);
        Check.tell(x, "tw0 0;tk0 1;");
        dueAll("some ends are, some are not", x, 5, 2, 1, 2);
    }

    private static void worstIsShortest() {
        WaitPlaces x = Check.told("tl1u1;tw0 0;tl0l1w2 0;");
        Check.dueWorst("a longer one would be the first, thread by thread", x, "12202");
        Check.tell(x, "tw0 0;");
        Check.dueWorst("one step", x, "0");
        Check.steps(x, "0");
        due("stuck now", x.worst(-1), 0);
        due("no thread steps", x.worst(0), NONE);
        Check.tell(x, "tb0 0w0 0w0 0;tk0 1;");
        Check.dueWorst("a wake that comes between", x, "010");
    }

    private static void worstIsFirst() {
        WaitPlaces x = Check.told("tw0 0;tw0 0;tw0 0;tw0 0;");
        Check.dueWorst("of 24", x, "0123");
        Check.tell(x, "tk0 1;ti1k0 2;tw0 0;");
        Check.dueWorst("wakes that come too early", x, "0112");
        Check.tell(x, "tw0 0;tk0 1;ti1;");
        Check.dueWorst("thread 0 can't be the first", x, "102");
        Check.tell(x, "ti1w0 0;ts0 1;ts0 1i2;");
        Check.dueWorst("thread 0 can", x, "00122");
    }

    private static void noWorst() {
        String[] texts = {"", "t;", "ti0;ti0;", "tl0l1u1u0;tl1l0u0u1;", "tw0 1;", "tx;tx;tx;tx;"};
        for (String text : texts) {
            WaitPlaces x = Check.told(text);
            for (int k = -1; k < 4; k++) due("worst(" + k + ") of '" + text + "'", x.worst(k), NONE);
            due("worst(HIGH) of '" + text + "'", x.worst(HIGH), NONE);
        }
        WaitPlaces y = Check.told("tw0 0;ts0 1;");
        due("there is one", y.worst(-1), 2);
        Check.steps(y, "1");
        due("from now on there is none", y.worst(-1), NONE);
        y.undo();
        due("there is one again", y.worst(-1), 2);
    }

    private static void finals() {
        WaitPlaces x = new WaitPlaces();
        for (int p = 0; p < 3; p++) due("new, place " + p, x.can(p, 0), 1);
        Check.tell(x, "ts1 0;ts1 1;ts1 2;ts1 3;");
        int[] want = {1, 15, 1};
        for (int p = 0; p < 3; p++) due("place " + p, x.can(p, 0), want[p]);
        Check.tell(x, "v2 3;ti2;ts0 3s0 1;");
        int[] ends = {2, 1, 1};
        for (int p = 0; p < 3; p++) due("at the end alone, place " + p, x.can(p, 0), ends[p]);
        Check.tell(x, "v0 3;tw0 3;");
        due("in an end that is stuck, too", x.can(0, 0), 8);
    }

    private static void owned() {
        WaitPlaces x = Check.told("tl1u1;tl1u1;tl1u1;tl1u1;");
        int[] want = {0, 15, 0};
        for (int p = 0; p < 3; p++) due("place " + p, x.can(p, 1), want[p]);
        Check.steps(x, "33");
        due("from now on not by 3", x.can(1, 1), 7);
        Check.tell(x, "tl0;tl0;");
        Check.steps(x, "1");
        due("by one that is done, now", x.can(0, 1), 2);
        Check.tell(x, "tl0x;tl0;");
        due("by one that dies, too", x.can(0, 1), 3);
        Check.tell(x, "tl0u0;");
        Check.steps(x, "0");
        due("now alone", x.can(0, 1), 1);
        Check.steps(x, "0");
        due("no more", x.can(0, 1), 0);
    }

    private static void slept() {
        WaitPlaces x = new WaitPlaces();
        due("new", x.slept(), 0);
        Check.tell(x, "tw0 0;tw0 0;tw0 0;tw0 0;");
        due("all", x.slept(), 15);
        Check.tell(x, "tl0;tl0;tl0;tl0;");
        due("all but one, any one", x.slept(), 15);
        Check.steps(x, "2");
        due("not the owner", x.slept(), 11);
        Check.tell(x, "tw0 0i0;tk0 1s0 1;tl1u1;tl1u1;");
        due("those that wait for a while don't count", x.slept(), 1);
        Check.tell(x, "tw0 0i0;tq0 1s0 1;ti0;tw1 0;");
        due("the last, and the first", x.slept(), 9);
    }

    private static void sixSeen() {
        WaitPlaces x = Check.told("ts0 1;ts0 2;");
        for (int n = 1; n <= 6; n++) due("sees " + n, x.sees(0, n == 6 ? 2 : 1), n);
        due("a seventh", x.sees(0, 1), FULL);
        due("all six count: one of them is not so", x.unseen(0), 0);
        x.forget();
        for (int n = 1; n <= 6; n++) due("the same " + n, x.sees(0, 1), n);
        due("a seventh against them", x.sees(0, 2), FULL);
        due("a seventh does not count", x.unseen(0), 1);
        due("six", x.count(3), 6);
    }

    private static void unseenEnds() {
        WaitPlaces x = Check.told("ts0 1;ts0 2;tw0 2;");
        due("nothing seen", x.unseen(0), 4);
        due("nothing seen, stuck ones", x.unseen(1), 2);
        x.sees(0, 1);
        due("1", x.unseen(0), 2);
        due("1, stuck ones", x.unseen(1), 1);
        x.sees(2, 0);
        due("another place", x.unseen(0), 2);
        x.sees(1, 3);
        due("never so", x.unseen(0), 0);
        due("never so, stuck ones", x.unseen(1), 0);
        x.forget();
        x.sees(0, 0);
        due("a value on the way is not at an end", x.unseen(0), 0);
        x.forget();
        x.sees(0, 2);
        Check.steps(x, "20");
        due("from now on", x.unseen(0), 1);
        due("from now on, stuck ones", x.unseen(1), 0);
        WaitPlaces y = new WaitPlaces();
        due("new", y.unseen(0) * 10 + y.unseen(1), 10);
        y.sees(0, 0);
        due("new, seen so", y.unseen(0), 1);
        y.sees(0, 1);
        due("new, not so", y.unseen(0), 0);
    }

    private static void threeThousandStates() {
        WaitPlaces x = Check.told(JUST_FITS);
        due("3000", x.all(0), 3000);
        due("ends", x.all(1), 79);
        due("stuck ones", x.all(2), 79);
        due("worst", x.worst(-1) > 0 ? 1 : 0, 1);
        due("unseen", x.unseen(0), 79);
        due("slept", x.slept() > 0 ? 1 : 0, 1);
        Check.tell(x, ONE_TOO_MANY);
        due("3001", x.all(0), FULL);
        due("3001 again", x.all(0), FULL);
        due("a step", x.step(0), 1);
        due("fewer from now on", x.all(0) > 0 && x.all(0) < 3000 ? 1 : 0, 1);
        due("undo", x.undo(), 0);
        due("3001 once more", x.all(0), FULL);
        Check.tell(x, JUST_FITS);
        due("3000 once more", x.all(0), 3000);
        Oracle y = new Oracle();
        due("the oracle's count", count(y, JUST_FITS), 3000);
        due("the oracle's count of more", count(y, ONE_TOO_MANY), 3001);
    }

    private static int count(Oracle y, String text) {
        for (int i = 0; i < text.length(); i++) y.type(text.charAt(i));
        y.threads();
        return y.explore(10_000);
    }

    private static void allThatGoesOverStates() {
        WaitPlaces x = Check.told(ONE_TOO_MANY);
        due("all", x.all(0), FULL);
        due("worst", x.worst(-1), FULL);
        due("can", x.can(0, 0), FULL);
        due("slept", x.slept(), FULL);
        due("unseen", x.unseen(0), FULL);
        due("sees goes over none", x.sees(0, 0), 1);
        due("unseen, something SEEN", x.unseen(0), FULL);
        due("forget goes over none", x.forget(), 1);
        due("place", x.place(0, 0), 0);
        due("thread", x.thread(3, 1), 0);
        due("row", x.row(0), NONE);
        due("count", x.count(0), 4);
        due("keep", x.keep(0), 4);
        due("step", x.step(3), 1);
        due("undo", x.undo(), 0);
        due("back", x.back(0), 4);
    }

    private static void allCounts() {
        WaitPlaces x = Check.told("tw0 0;ts0 1;");
        dueAll("a sleeper or none", x, 5, 2, 1, 2);
        Check.tell(x, "ti0i0i0i0b1 0;ti0i0i0i0b1 0;ti0i0i0i0b1 0;ti0i0i0i0b1 0;");
        dueAll("many", x, 1296 + 4 * 216 + 12 * 36 + 24 * 6 + 24, 24, 24, 24);
    }

    private static void fewestSteps() {
        WaitPlaces x = new WaitPlaces();
        due("none", x.all(3), 0);
        Check.tell(x, "tw0 0i1i1i1i1;ts0 1;");
        due("the sleeper's end is nearer", x.all(3), 2);
        Check.tell(x, "txi0i0i0i0;");
        due("x ends at once", x.all(3), 1);
        Check.tell(x, "ti0i0i0i0i0;ti0i0i0i0i0;ti0i0i0i0i0;ti0i0i0i0i0;");
        dueAll("the longest programs", x, 1296, 1, 0, 20);
    }

    private static void noSuchAll() {
        WaitPlaces x = Check.told("ti0;");
        due("all(-1)", x.all(-1), BAD);
        due("all(4)", x.all(4), BAD);
        for (int what : ODD) due("all(" + what + ")", x.all(what), BAD);
        Check.tell(x, ONE_TOO_MANY);
        due("all(-1), too many states", x.all(-1), BAD);
        due("all(4), too many states", x.all(4), BAD);
    }

    private static void allFull() {
        WaitPlaces x = Check.told(ONE_TOO_MANY);
        for (int what = 0; what < 4; what++) due("all(" + what + ")", x.all(what), FULL);
        Check.tell(x, JUST_FITS);
        for (int what = 0; what < 4; what++) due("not all(" + what + ")", x.all(what) > 0 ? 1 : 0, 1);
    }

    private static void worstLength() {
        WaitPlaces x = Check.told("tw0 0;");
        due("one", x.worst(-1), 1);
        Check.steps(x, "0");
        due("none", x.worst(-1), 0);
        Check.tell(x, "tl0;tl0;");
        due("two", x.worst(-1), 2);
    }

    private static void longestWorst() {
        WaitPlaces x = Check.told("ti0i0i0i0b1 0;ti0i0i0i0b1 0;ti0i0i0i0b1 0;ti0i0i0i0b1 0;");
        due("24 steps", x.worst(-1), 24);
        for (int k = 0; k < 24; k++) due("worst(" + k + ")", x.worst(k), k / 6);
        due("worst(24)", x.worst(24), NONE);
    }

    private static void behindTheWorst() {
        WaitPlaces x = Check.told("tl0;tl0;");
        due("worst(1)", x.worst(1), 1);
        for (int k = 2; k < 8; k++) due("worst(" + k + ")", x.worst(k), NONE);
        due("worst(3000)", x.worst(3000), NONE);
        due("worst(HIGH)", x.worst(HIGH), NONE);
        due("worst(HIGH - 1)", x.worst(HIGH - 1), NONE);
        Check.steps(x, "01");
        due("stuck now, worst(0)", x.worst(0), NONE);
        Check.tell(x, "ti0;");
        due("nothing is stuck, worst(-1)", x.worst(-1), NONE);
    }

    private static void noSuchWorst() {
        WaitPlaces x = Check.told("tw0 0;");
        due("worst(-2)", x.worst(-2), BAD);
        due("worst(-9)", x.worst(-9), BAD);
        due("worst(LOW)", x.worst(LOW), BAD);
        due("worst(LOW + 1)", x.worst(LOW + 1), BAD);
        Check.tell(x, "ti0;");
        due("worst(-2), nothing is stuck", x.worst(-2), BAD);
        Check.tell(x, ONE_TOO_MANY);
        due("worst(-2), too many states", x.worst(-2), BAD);
    }

    private static void worstFull() {
        WaitPlaces x = Check.told(ONE_TOO_MANY);
        for (int k = -1; k < 4; k++) due("worst(" + k + ")", x.worst(k), FULL);
        due("worst(HIGH)", x.worst(HIGH), FULL);
        Check.tell(x, JUST_FITS);
        due("not worst(-1)", x.worst(-1) > 0 ? 1 : 0, 1);
    }

    private static void canFinal() {
        WaitPlaces x = Check.told("v0 3;v1 2;v2 1;");
        int[] want = {8, 4, 2};
        for (int p = 0; p < 3; p++) due("can(" + p + ", 0)", x.can(p, 0), want[p]);
        Check.tell(x, "ti0;ts0 0;");
        due("both ends", x.can(0, 0), 3);
    }

    private static void canOwn() {
        WaitPlaces x = Check.told("tl0;tl1;tl2;tl0;");
        int[] want = {9, 2, 4};
        for (int p = 0; p < 3; p++) due("can(" + p + ", 1)", x.can(p, 1), want[p]);
        Check.tell(x, "ti0;");
        for (int p = 0; p < 3; p++) due("nobody, can(" + p + ", 1)", x.can(p, 1), 0);
    }

    private static void noSuchCan() {
        WaitPlaces x = new WaitPlaces();
        String[] texts = {"tl0;", ONE_TOO_MANY};
        for (String text : texts) {
            Check.tell(x, text);
            for (int what = 0; what < 2; what++) {
                due("can(-1, " + what + ")", x.can(-1, what), BAD);
                due("can(3, " + what + ")", x.can(3, what), BAD);
                for (int p : ODD) due("can(" + p + ", " + what + ")", x.can(p, what), BAD);
            }
            for (int p = 0; p < 3; p++) {
                due("can(" + p + ", -1)", x.can(p, -1), BAD);
                due("can(" + p + ", 2)", x.can(p, 2), BAD);
                for (int what : ODD) due("can(" + p + ", " + what + ")", x.can(p, what), BAD);
            }
        }
    }

    private static void canFull() {
        WaitPlaces x = Check.told(ONE_TOO_MANY);
        for (int p = 0; p < 3; p++) {
            due("can(" + p + ", 0)", x.can(p, 0), FULL);
            due("can(" + p + ", 1)", x.can(p, 1), FULL);
        }
        Check.tell(x, JUST_FITS);
        due("not can(0, 0)", x.can(0, 0) > 0 ? 1 : 0, 1);
    }

    private static void sleptBits() {
        WaitPlaces x = new WaitPlaces();
        due("nobody", x.slept(), 0);
        for (int t = 0; t < 4; t++) {
            Check.tell(x, "t;".repeat(t) + "tw0 0;");
            due("only " + t, x.slept(), 1 << t);
        }
        Check.tell(x, "tw0 0;tw1 0;tb0 0;tl2w2 0;");
        due("all", x.slept(), 15);
    }

    private static void sleptFull() {
        WaitPlaces x = Check.told(ONE_TOO_MANY);
        due("3001", x.slept(), FULL);
        Check.tell(x, JUST_FITS);
        due("3000", x.slept() > 0 ? 1 : 0, 1);
    }

    private static void seesAnswers() {
        WaitPlaces x = new WaitPlaces();
        int n = 0;
        for (int p = 0; p < 3; p++) {
            due("the least value of " + p, x.sees(p, 0), ++n);
            due("the greatest value of " + p, x.sees(p, 3), ++n);
        }
        due("six", x.count(3), 6);
    }

    private static void noSuchSight() {
        WaitPlaces x = Check.told("ti0;");
        for (int full = 0; full < 2; full++) {
            for (int v = 0; v < 4; v++) {
                due("sees(-1, " + v + ")", x.sees(-1, v), BAD);
                due("sees(3, " + v + ")", x.sees(3, v), BAD);
            }
            for (int p = 0; p < 3; p++) {
                due("sees(" + p + ", -1)", x.sees(p, -1), BAD);
                due("sees(" + p + ", 4)", x.sees(p, 4), BAD);
            }
            for (int odd : ODD) {
                due("sees(" + odd + ", 0)", x.sees(odd, 0), BAD);
                due("sees(0, " + odd + ")", x.sees(0, odd), BAD);
                due("sees(" + odd + ", " + odd + ")", x.sees(odd, odd), BAD);
            }
            due("SEEN", x.count(3), full * 6);
            due("ends", x.unseen(0), 1);
            for (int n = 0; n < 6; n++) x.sees(0, 1);
        }
    }

    private static void seesFull() {
        WaitPlaces x = new WaitPlaces();
        for (int n = 1; n <= 6; n++) due("sees " + n, x.sees(2, 0), n);
        for (int n = 0; n < 3; n++) due("no more", x.sees(n, n), FULL);
        due("six", x.count(3), 6);
        due("as it was", x.unseen(0), 1);
        due("forget", x.forget(), 6);
        due("room again", x.sees(0, 0), 1);
    }

    private static void forget() {
        WaitPlaces x = Check.told("ts0 1;ts0 2;");
        due("of nothing", x.forget(), 0);
        for (int n = 1; n <= 6; n++) {
            for (int m = 0; m < n; m++) x.sees(0, 3);
            due("nothing fits", x.unseen(0), 0);
            due("forget " + n, x.forget(), n);
            due("nothing is SEEN", x.count(3), 0);
            due("all fit", x.unseen(0), 2);
        }
        due("again", x.forget(), 0);
    }

    private static void unseenAnswers() {
        WaitPlaces x = Check.told("tw0 0;tk0 1i0;");
        due("ends", x.unseen(0), x.all(1));
        due("stuck ones", x.unseen(1), x.all(2));
        due("one is stuck", x.unseen(1), 1);
        x.sees(0, 1);
        due("seen so", x.unseen(1), 1);
        x.sees(0, 0);
        due("seen not so", x.unseen(0) + x.unseen(1), 0);
        due("ends stay", x.all(1) > 1 ? 1 : 0, 1);
    }

    private static void noSuchUnseen() {
        WaitPlaces x = new WaitPlaces();
        String[] texts = {"", "tw0 0;", ONE_TOO_MANY};
        for (String text : texts) {
            Check.tell(x, text);
            due("unseen(-1)", x.unseen(-1), BAD);
            due("unseen(2)", x.unseen(2), BAD);
            for (int what : ODD) due("unseen(" + what + ")", x.unseen(what), BAD);
        }
    }

    private static void unseenFull() {
        WaitPlaces x = Check.told(ONE_TOO_MANY);
        due("unseen(0)", x.unseen(0), FULL);
        due("unseen(1)", x.unseen(1), FULL);
        x.sees(0, 0);
        due("something SEEN", x.unseen(0), FULL);
        Check.tell(x, JUST_FITS);
        due("not of 3000", x.unseen(0), 79);
        due("not of 3000, stuck ones", x.unseen(1), 79);
    }
}
