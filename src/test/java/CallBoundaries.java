import java.util.function.ToIntFunction;

/** Sentences about images, counts, refused calls and how long an object is used: promises 17 to 19, and all. */
final class CallBoundaries extends Boundaries {
    private static final int[] ODD = {-1, -2, -9, 256, LOW, LOW + 1, HIGH};

    private CallBoundaries() {
    }

    static void tests() {
        test(17, "IMAGES 0, 1 keep 2 (VALUES,", CallBoundaries::imagesOfValues);
        test(17, "OWNERS, how THREADS are, THE ROW,", CallBoundaries::imagesOfThreads);
        test(17, "how often one was FOUND DEAD);", CallBoundaries::imagesOfWhatWasFound);
        test(18, "nothing else", CallBoundaries::nothingElse);
        test(18, "(nothing can be UNDONE behind back()).", CallBoundaries::nothingUndoneBehindBack);
        test(17, "An IMAGE is kept: THREADS.", CallBoundaries::keepAnswers);
        test(17, "BAD.", CallBoundaries::noSuchImageToKeep);
        test(18, "All of that becomes as an IMAGE has it: THREADS.", CallBoundaries::backAnswers);
        test(18, "BAD;", CallBoundaries::noSuchImage);
        test(18, "STATE: none was kept.", CallBoundaries::noneKept);
        test(19, "0 THREADS,", CallBoundaries::countThreads);
        test(19, "1 how long THE ROW is,", CallBoundaries::countRow);
        test(19, "2 how often one FOUND a PLACE DEAD,", CallBoundaries::countFound);
        test(19, "3 SEEN,", CallBoundaries::countSeen);
        test(19, "4 letters of THE TEXT,", CallBoundaries::countLetters);
        test(19, "5 how many may be UNDONE.", CallBoundaries::countUndone);
        test(19, "BAD.", CallBoundaries::noSuchCount);

        test(3, "THE TEXT is empty", CallBoundaries::clearsTheTextAlone);
        test(15, "Nothing is SEEN", CallBoundaries::forgetsWhatWasSeenAlone);
        test(9, "UNDONE: the latest step()", CallBoundaries::undoesAStepAlone);
        test(10, "nothing is changed.)", CallBoundaries::askingChangesNothing);
        test(8, "Refused, and nothing changes,", CallBoundaries::refusedByBad);
        test(9, "Refused, and nothing changes, the first of these: BAD", CallBoundaries::refusedByStateOrFull);
        test(18, "the first of these: BAD (a number is not as told, or there is no such thing), STATE (as told), FULL",
            CallBoundaries::theFirstOfThese);
        test(1, "An object is used for at most 512 calls after it has been made; what later calls answer is free.",
            CallBoundaries::fiveHundredAndTwelveCalls);
        test(1, "public static final int BAD = -1, STATE = -2, FULL = -3, NONE = -9;", CallBoundaries::constants);
    }

    /** One that died, one between, one asleep, one that waits; one FOUND DEAD; two SEEN; letters; image 0 kept earlier. */
    private static WaitPlaces busy() {
        WaitPlaces x = busyUntold();
        x.sees(0, 1);
        x.sees(1, 2);
        Check.type(x, "v0 1;t");
        return x;
    }

    /** The same with nothing SEEN and without letters. */
    private static WaitPlaces busyUntold() {
        WaitPlaces x = Check.told("v1 2;tl0l2xi0;tl0b1 2i0;tw1 2l0;ti0l0;r1 1;r2 3;r3 2;");
        Check.steps(x, "00");
        x.keep(0);
        Check.steps(x, "1");
        Check.steps(x, "0");
        Check.steps(x, "2331");
        return x;
    }

    private static final String BUSY = "11001 2-010 0-100 33-000 10-121 011330 120220 2 3 -9 -9 found 1";

    private static void imagesOfValues() {
        WaitPlaces x = Check.told("v0 3;ti0i0i0i0;");
        int[] values = {3, 0, 1, 2};
        for (int image = 0; image < 2; image++) {
            for (int n = 0; n < 2; n++) {
                due("keep", x.keep(n), 1);
                Check.steps(x, "0");
            }
            for (int n = 0; n < 2; n++) {
                due("back", x.back(n), 1);
                due("value", x.place(0, 0), values[2 * image + n]);
            }
            Check.steps(x, "0");
        }
    }

    private static void imagesOfThreads() {
        for (int image = 0; image < 2; image++) {
            WaitPlaces x = busy();
            Check.same("as it was", how(x), BUSY);
            due("keep", x.keep(image), 4);
            due("a step more", x.step(1), 1);
            Check.dueRow("a step more", x, "231");
            due("back", x.back(image), 4);
            Check.same("as it was again", how(x), BUSY);
            due("all steps that were possible", x.step(1), 1);
            due("asleep", x.step(2), STATE);
            due("waits", x.step(3), STATE);
            due("done", x.step(0), STATE);
            due("back again", x.back(image), 4);
            Check.same("as it was once more", how(x), BUSY);
        }
    }

    private static void imagesOfWhatWasFound() {
        WaitPlaces x = Check.told("tl0x;tl0x;tl0x;");
        Check.steps(x, "00");
        x.keep(0);
        Check.steps(x, "11");
        x.keep(1);
        Check.steps(x, "2");
        due("found twice", x.count(2), 2);
        due("back", x.back(0), 3);
        due("not found yet", x.count(2), 0);
        due("back", x.back(1), 3);
        due("found once", x.count(2), 1);
        Check.steps(x, "2");
        due("found twice again", x.count(2), 2);
    }

    private static void nothingElse() {
        WaitPlaces x = Check.told("ts0 1;ts0 2;");
        x.sees(0, 1);
        Check.type(x, "v0 ");
        x.keep(0);
        Check.steps(x, "0");
        x.sees(0, 2);
        x.sees(0, 2);
        Check.type(x, "1;");
        x.keep(1);
        due("back", x.back(0), 2);
        due("SEEN stays", x.count(3), 3);
        due("what was SEEN stays", x.unseen(0), 0);
        due("letters stay", x.count(4), 5);
        due("the other image stays", x.back(1), 2);
        due("it is the other", x.thread(0, 0), 1);
        due("and the first stays, too", x.back(0), 2);
        due("it is the first", x.thread(0, 0), 0);
        due("the text is read as it was typed", x.threads(), 1);
        due("it told", x.place(0, 0), 1);
    }

    private static void nothingUndoneBehindBack() {
        WaitPlaces x = Check.told("ti0i0i0i0i0;ti0i0i0i0i0;ti0i0i0i0i0;");
        Check.steps(x, "01");
        due("keep", x.keep(0), 3);
        due("keep leaves what can be undone", x.count(5), 2);
        Check.steps(x, "22");
        due("back", x.back(0), 3);
        due("none", x.count(5), 0);
        due("undo", x.undo(), STATE);
        due("nothing changes", x.thread(0, 0) * 100 + x.thread(1, 0) * 10 + x.thread(2, 0), 110);
        Check.steps(x, "2");
        due("a step behind back", x.count(5), 1);
        due("is undone", x.undo(), 0);
        due("no more", x.undo(), STATE);
        Check.steps(x, "000011112222");
        due("twelve behind back", x.count(5), 12);
        due("back", x.back(0), 3);
        due("none again", x.undo(), STATE);
    }

    private static void keepAnswers() {
        WaitPlaces x = new WaitPlaces();
        for (int n = 0; n <= 4; n++) {
            due("tell", Check.tell(x, "ti0;".repeat(n)), n);
            due("keep(0) of " + n, x.keep(0), n);
            due("keep(1) of " + n, x.keep(1), n);
            due("keep(0) again of " + n, x.keep(0), n);
        }
        Check.steps(x, "0");
        due("kept anew", x.keep(0), 4);
        due("back to what was kept last", x.back(0), 4);
        due("one step", x.place(0, 0), 1);
        due("the other, kept before", x.back(1), 4);
        due("no step", x.place(0, 0), 0);
    }

    private static void noSuchImageToKeep() {
        WaitPlaces x = Check.told("ti0;");
        due("keep(2)", x.keep(2), BAD);
        for (int image : ODD) due("keep(" + image + ")", x.keep(image), BAD);
        due("back(0)", x.back(0), STATE);
        due("back(1)", x.back(1), STATE);
    }

    private static void backAnswers() {
        for (int n = 0; n <= 4; n++) {
            WaitPlaces x = Check.told("ti0i0;".repeat(n));
            for (int image = 0; image < 2; image++) {
                x.keep(image);
                String kept = how(x);
                for (int t = 0; t < n; t++) x.step(t);
                due("back of " + n, x.back(image), n);
                Check.same("as kept", how(x), kept);
                due("back again of " + n, x.back(image), n);
                if (n > 0) Check.steps(x, "0");
            }
        }
    }

    private static void noSuchImage() {
        WaitPlaces x = Check.told("ti0;");
        for (int kept = 0; kept < 2; kept++) {
            due("back(2)", x.back(2), BAD);
            for (int image : ODD) due("back(" + image + ")", x.back(image), BAD);
            x.keep(0);
            x.keep(1);
            Check.steps(x, kept == 0 ? "0" : "");
        }
        due("nothing changed", x.place(0, 0), 1);
    }

    private static void noneKept() {
        for (int image = 0; image < 2; image++) {
            WaitPlaces x = new WaitPlaces();
            due("new", x.back(image), STATE);
            due("keep the other", x.keep(1 - image), 0);
            due("still none", x.back(image), STATE);
            due("keep", x.keep(image), 0);
            due("kept", x.back(image), 0);
            due("told anew", Check.tell(x, "ti0;"), 1);
            due("gone", x.back(image), STATE);
            due("gone, too", x.back(1 - image), STATE);
        }
    }

    private static void countThreads() {
        WaitPlaces x = new WaitPlaces();
        due("new", x.count(0), 0);
        for (int n = 4; n >= 0; n--) {
            Check.tell(x, "t;".repeat(n));
            due("threads", x.count(0), n);
        }
        Check.tell(x, "txi0;");
        Check.steps(x, "0");
        due("one that is dead counts", x.count(0), 1);
    }

    private static void countRow() {
        WaitPlaces x = Check.told("tl0w0 0;tl0;tw1 0;tb2 0;");
        due("empty", x.count(1), 0);
        Check.steps(x, "0");
        due("an owner does not stand there", x.count(1), 0);
        Check.steps(x, "123");
        due("between does not stand there", x.count(1), 2);
        Check.steps(x, "30");
        due("full", x.count(1), 4);
    }

    private static void countFound() {
        WaitPlaces x = Check.told("tl0l1l2x;tl0x;tl1x;tl2l0l1x;");
        Check.steps(x, "0000");
        due("dead is not found", x.count(2), 0);
        Check.steps(x, "12");
        due("two", x.count(2), 2);
        Check.steps(x, "12");
        due("dead again is not found", x.count(2), 2);
        Check.steps(x, "3");
        due("three", x.count(2), 3);
        Check.steps(x, "33");
        due("all three, two of them twice", x.count(2), 5);
        Check.steps(x, "3");
        due("nobody is left", x.count(2), 5);
        x.undo();
        x.undo();
        due("undone", x.count(2), 4);
    }

    private static void countSeen() {
        WaitPlaces x = new WaitPlaces();
        for (int n = 0; n < 6; n++) {
            due("SEEN", x.count(3), n);
            x.sees(0, 0);
        }
        due("six", x.count(3), 6);
        x.sees(0, 0);
        due("six, a seventh was refused", x.count(3), 6);
        x.forget();
        due("none", x.count(3), 0);
    }

    private static void countLetters() {
        WaitPlaces x = new WaitPlaces();
        for (int n = 0; n < 120; n++) {
            due("letters", x.count(4), n);
            x.type(n);
        }
        due("120", x.count(4), 120);
        x.type(' ');
        due("120, one more was refused", x.count(4), 120);
        x.threads();
        due("120, a fault", x.count(4), 120);
        x.clear();
        due("none", x.count(4), 0);
        x.type(' ');
        x.threads();
        due("none, read", x.count(4), 0);
    }

    private static void countUndone() {
        WaitPlaces x = Check.told("ti0i0i0i0i0;ti0i0i0i0i0;ti0i0i0i0i0;");
        for (int n = 0; n < 15; n++) {
            due("behind " + n, x.count(5), Math.min(n, 12));
            Check.steps(x, "" + n % 3);
        }
        due("twelve", x.count(5), 12);
        for (int n = 11; n >= 0; n--) {
            x.undo();
            due("undone to " + n, x.count(5), n);
        }
        x.undo();
        due("none", x.count(5), 0);
    }

    private static void noSuchCount() {
        WaitPlaces x = busy();
        due("count(6)", x.count(6), BAD);
        due("count(7)", x.count(7), BAD);
        for (int what : ODD) due("count(" + what + ")", x.count(what), BAD);
    }

    /** A refused call on one of two that are alike: they stay alike, in all that can still be asked or done. */
    private static void refused(String call, int want, WaitPlaces x, WaitPlaces y, ToIntFunction<WaitPlaces> refusal) {
        due(call, refusal.applyAsInt(x), want);
        Check.same("look behind " + call, look(x), look(y));
        stayAlike(call, x, y);
    }

    /** Without a look over all states ahead of it, which could change both in the same way. */
    private static void stayAlike(String call, WaitPlaces x, WaitPlaces y) {
        for (int what = 0; what < 6; what++) due("count(" + what + ") behind " + call, x.count(what), y.count(what));
        Check.same("how it is behind " + call, how(x), how(y));
        due("undo behind " + call, x.undo(), y.undo());
        Check.same("undone behind " + call, how(x), how(y));
        for (int image = 0; image < 2; image++) {
            due("back behind " + call, x.back(image), y.back(image));
            Check.same("back behind " + call, how(x), how(y));
        }
        due("unseen behind " + call, x.unseen(0), y.unseen(0));
        due("threads behind " + call, x.threads(), y.threads());
        Check.same("told behind " + call, how(x), how(y));
        due("clear behind " + call, x.clear(), y.clear());
    }

    private static void clearsTheTextAlone() {
        WaitPlaces x = busyUntold();
        Check.type(x, "v0 1;t");
        due("clear", x.clear(), 6);
        stayAlike("clear", x, busyUntold());
        WaitPlaces y = busy();
        y.clear();
        due("SEEN stays", y.count(3), 2);
        due("what was SEEN stays", y.unseen(0), busy().unseen(0));
    }

    private static void forgetsWhatWasSeenAlone() {
        WaitPlaces x = busyUntold();
        x.sees(0, 1);
        x.sees(1, 2);
        due("forget", x.forget(), 2);
        stayAlike("forget", x, busyUntold());
        WaitPlaces y = busy();
        y.forget();
        due("letters stay", y.count(4), 6);
        due("what they tell stays", y.type(';'), 7);
        due("it is read", y.threads(), 2);
    }

    private static void undoesAStepAlone() {
        WaitPlaces x = busy();
        Check.steps(x, "1");
        due("undo", x.undo(), 8);
        stayAlike("undo", x, busy());
    }

    private static void asked(String call, ToIntFunction<WaitPlaces> question) {
        WaitPlaces x = busy();
        due(call + " is not refused", question.applyAsInt(x) >= 0 ? 1 : 0, 1);
        stayAlike(call, x, busy());
    }

    private static void askingChangesNothing() {
        for (int n = 0; n < 4; n++) {
            int what = n;
            asked("all(" + what + ")", x -> x.all(what));
        }
        asked("worst(-1)", x -> x.worst(-1));
        asked("worst(0)", x -> x.worst(0));
        asked("can(0, 0)", x -> x.can(0, 0));
        asked("can(0, 1)", x -> x.can(0, 1));
        asked("slept()", x -> x.slept());
        asked("unseen(0)", x -> x.unseen(0));
        asked("unseen(1)", x -> x.unseen(1));
    }

    private static void refusedBusy(String call, int want, ToIntFunction<WaitPlaces> refusal) {
        refused(call, want, busy(), busy(), refusal);
        refused(call + " in a full one", want, full(), full(), refusal);
    }

    private static void refusedByBad() {
        refusedBusy("type(-1)", BAD, x -> x.type(-1));
        refusedBusy("type(256)", BAD, x -> x.type(256));
        refusedBusy("place(3, 0)", BAD, x -> x.place(3, 0));
        refusedBusy("place(0, 5)", BAD, x -> x.place(0, 5));
        refusedBusy("thread(4, 0)", BAD, x -> x.thread(4, 0));
        refusedBusy("thread(0, 6)", BAD, x -> x.thread(0, 6));
        refusedBusy("row(-1)", BAD, x -> x.row(-1));
        refusedBusy("step(-1)", BAD, x -> x.step(-1));
        refusedBusy("step(4)", BAD, x -> x.step(4));
        refusedBusy("all(4)", BAD, x -> x.all(4));
        refusedBusy("worst(-2)", BAD, x -> x.worst(-2));
        refusedBusy("can(3, 0)", BAD, x -> x.can(3, 0));
        refusedBusy("can(0, 2)", BAD, x -> x.can(0, 2));
        refusedBusy("sees(3, 0)", BAD, x -> x.sees(3, 0));
        refusedBusy("sees(0, 4)", BAD, x -> x.sees(0, 4));
        refusedBusy("unseen(2)", BAD, x -> x.unseen(2));
        refusedBusy("keep(2)", BAD, x -> x.keep(2));
        refusedBusy("back(2)", BAD, x -> x.back(2));
        refusedBusy("count(6)", BAD, x -> x.count(6));
    }

    /** A text of 120 letters that has a fault, six SEEN, nothing to undo, image 1 not kept, more than 3000 states. */
    private static WaitPlaces full() {
        WaitPlaces x = Check.told(ONE_TOO_MANY);
        x.keep(0);
        for (int n = 0; n < 6; n++) x.sees(n % 3, n % 4);
        for (int n = 0; n < 120; n++) x.type('x');
        return x;
    }

    private static void refusedFull(String call, int want, ToIntFunction<WaitPlaces> refusal) {
        refused(call, want, full(), full(), refusal);
    }

    private static void refusedByStateOrFull() {
        refused("step(0), done", STATE, busy(), busy(), x -> x.step(0));
        refused("step(2), asleep", STATE, busy(), busy(), x -> x.step(2));
        refused("step(3), waits", STATE, busy(), busy(), x -> x.step(3));
        refused("back(1), not kept", STATE, busy(), busy(), x -> x.back(1));
        refused("threads(), a fault", -16, busy(), busy(), x -> x.threads());
        refusedFull("undo(), none", STATE, x -> x.undo());
        refusedFull("back(1), not kept", STATE, x -> x.back(1));
        refusedFull("threads(), a fault", -10, x -> x.threads());
        refusedFull("type(' ')", FULL, x -> x.type(' '));
        refusedFull("sees(0, 0)", FULL, x -> x.sees(0, 0));
        refusedFull("all(0)", FULL, x -> x.all(0));
        refusedFull("all(3)", FULL, x -> x.all(3));
        refusedFull("worst(-1)", FULL, x -> x.worst(-1));
        refusedFull("worst(0)", FULL, x -> x.worst(0));
        refusedFull("can(0, 0)", FULL, x -> x.can(0, 0));
        refusedFull("can(2, 1)", FULL, x -> x.can(2, 1));
        refusedFull("slept()", FULL, x -> x.slept());
        refusedFull("unseen(0)", FULL, x -> x.unseen(0));
        refusedFull("unseen(1)", FULL, x -> x.unseen(1));
    }

    private static void theFirstOfThese() {
        WaitPlaces x = new WaitPlaces();
        due("BAD ahead of STATE: back", x.back(2), BAD);
        due("BAD ahead of STATE: step of no thread", x.step(0), BAD);
        Check.tell(x, "t;");
        due("STATE: step of a thread that is done", x.step(0), STATE);
        due("BAD: step of the next", x.step(1), BAD);
        WaitPlaces y = full();
        due("BAD ahead of FULL: type(256)", y.type(256), BAD);
        due("BAD ahead of FULL: type(-1)", y.type(-1), BAD);
        due("BAD ahead of FULL: sees(3, 0)", y.sees(3, 0), BAD);
        due("BAD ahead of FULL: sees(0, 4)", y.sees(0, 4), BAD);
        due("BAD ahead of FULL: all(4)", y.all(4), BAD);
        due("BAD ahead of FULL: all(-1)", y.all(-1), BAD);
        due("BAD ahead of FULL: worst(-2)", y.worst(-2), BAD);
        due("BAD ahead of FULL: can(3, 0)", y.can(3, 0), BAD);
        due("BAD ahead of FULL: can(0, 2)", y.can(0, 2), BAD);
        due("BAD ahead of FULL: unseen(2)", y.unseen(2), BAD);
        due("FULL: type", y.type(' '), FULL);
        due("FULL: sees", y.sees(0, 0), FULL);
        due("FULL: all", y.all(0), FULL);
    }

    private static void fiveHundredAndTwelveCalls() {
        WaitPlaces x = new WaitPlaces();
        int calls = 0;
        String text = "ti0;ti0i0i0;tw1 0;";
        for (int i = 0; i < text.length(); i++) due("call " + ++calls, x.type(text.charAt(i)), i + 1);
        due("call " + ++calls, x.threads(), 3);
        while (calls + 4 <= 508) {
            due("call " + ++calls, x.step(1), 1);
            due("call " + ++calls, x.all(0), 12);
            due("call " + ++calls, x.undo(), 0);
            due("call " + ++calls, x.all(0), 16);
        }
        while (calls < 508) due("call " + ++calls, x.count(0), 3);
        due("call 509", x.step(2), 0);
        due("call 510", x.worst(-1), 4);
        due("call 511", x.keep(1), 3);
        due("call 512", x.slept(), 4);
    }

    private static void constants() {
        String[] names = {"BAD", "STATE", "FULL", "NONE"};
        int[] want = {-1, -2, -3, -9};
        for (int n = 0; n < names.length; n++) due(names[n], constant(names[n]), want[n]);
    }

    /** As the class has it now: a compiler would put the number itself here. */
    private static int constant(String name) {
        try {
            return WaitPlaces.class.getField(name).getInt(null);
        } catch (ReflectiveOperationException missing) {
            throw new IllegalStateException(missing);
        }
    }
}
