/** Sentences about the text and what it tells: terms, part 1, and promises 1 to 4. */
final class TextBoundaries extends Boundaries {
    /** Where a number stands, what it may be there, and what follows. */
    private static final String[][] SLOTS = {
        {"v", "012", " 1;"}, {"v0 ", "0123", ";"}, {"ts", "012", " 1;"}, {"ts0 ", "0123", ";"}, {"ti", "012", ";"},
        {"tw", "012", " 1;"}, {"tw0 ", "0123", ";"}, {"tb", "012", " 1;"}, {"tb0 ", "0123", ";"}, {"tk", "012", " 1;"},
        {"tk0 ", "123", ";"}, {"tq0 ", "12", ";"}, {"tl", "012", ";"}, {"tu", "012", ";"}, {"t;r", "0", " 1;"},
        {"t;r0 ", "0123", ";"},
    };

    private TextBoundaries() {
    }

    static void tests() {
        test(1, "As told; no THREADS.", TextBoundaries::newObject);
        test(1, "an OWNER (none at first), DEAD or not.", TextBoundaries::placesAtFirst);
        test(4, "PLACES 0, 1, 2, each with a VALUE (0 ..", TextBoundaries::placesAndLeastValue);
        test(4, "3; 0 at first)", TextBoundaries::greatestValue);
        test(4, "THREADS 0 .. (4 at most)", TextBoundaries::fourThreads);
        test(4, "each with a RANK (0 .. 3; 0 at first)", TextBoundaries::ranks);
        test(4, "and a program of 0 to 5 OPERATIONS.", TextBoundaries::programLengths);
        test(2, "They are a text (120 letters at most), told letter by letter", TextBoundaries::longestText);
        test(4, "blanks (32) between TOKENS", TextBoundaries::blanks);
        test(4, "ITEMS, each ended by ;", TextBoundaries::ends);
        test(4, "v P V (a VALUE) ;", TextBoundaries::valueItems);
        test(4, "t and OPERATIONS (the next THREAD) ;", TextBoundaries::threadItems);
        test(4, "r T R (RANK of a THREAD told ahead).", TextBoundaries::rankItems);
        test(4, "OPERATIONS: s P V, i P, w P V, b P V,", TextBoundaries::operations);
        test(4, "k P N (N 1 .. 3)", TextBoundaries::wakeCounts);
        test(4, "q P Q (Q another PLACE)", TextBoundaries::moves);
        test(4, "l P, u P, x.", TextBoundaries::operationsOfOwners);
        test(4, "TOKENS are the letters v, t, r, s, i, w, b, k, q, l, u, x, NUMBERS and ; .", TextBoundaries::everyLetter);
        test(4, "FAULT: the place of the first letter of the first TOKEN that can't stand there", TextBoundaries::firstFault);
        test(4, "(a fifth t", TextBoundaries::fifthThread);
        test(4, "a sixth OPERATION", TextBoundaries::sixthOperation);
        test(4, "Q that is P", TextBoundaries::moveToItself);
        test(4, "a NUMBER beyond what it may be, too)", TextBoundaries::numbersBeyond);
        test(4, "of any other letter", TextBoundaries::otherLetters);
        test(4, "a NUMBER above 9", TextBoundaries::numbersAboveNine);
        test(4, "or with a 0 ahead of others, that TOKEN's", TextBoundaries::leadingZeros);
        test(4, "the text's length, if it ends too early.", TextBoundaries::textsThatEndTooEarly);
        test(4, "(VALUES, RANKS told again are as told last.)", TextBoundaries::toldAgain);
        test(2, "A letter (0 .. 255) comes to THE TEXT: how many it has.", TextBoundaries::letters);
        test(2, "BAD", TextBoundaries::noLetters);
        test(2, "FULL: 120.", TextBoundaries::fullText);
        test(3, "THE TEXT is empty: how many letters it had.", TextBoundaries::clear);
        test(4, "THE TEXT tells all anew, and is empty then: how many ITEMS.", TextBoundaries::countsItems);
        test(4, "(Read anew: as told, nothing can be UNDONE, nothing SEEN, IMAGES are gone.)", TextBoundaries::readAnew);
        test(4, "-10 less FAULT", TextBoundaries::leastAndGreatestFault);
        test(4, "nothing changes.", TextBoundaries::faultChangesNothing);
    }

    private static void newObject() {
        WaitPlaces x = new WaitPlaces();
        for (int what = 0; what < 6; what++) due("count(" + what + ")", x.count(what), 0);
        for (int what = 0; what < 6; what++) due("thread(0, " + what + ")", x.thread(0, what), BAD);
        due("step(0)", x.step(0), BAD);
        due("undo()", x.undo(), STATE);
        due("back(0)", x.back(0), STATE);
        due("back(1)", x.back(1), STATE);
        due("row(0)", x.row(0), NONE);
        int[] all = {1, 1, 0, 0};
        for (int what = 0; what < 4; what++) due("all(" + what + ")", x.all(what), all[what]);
        due("worst(-1)", x.worst(-1), NONE);
        due("worst(0)", x.worst(0), NONE);
        due("slept()", x.slept(), 0);
        due("unseen(0)", x.unseen(0), 1);
        due("unseen(1)", x.unseen(1), 0);
        due("forget()", x.forget(), 0);
        due("clear()", x.clear(), 0);
        due("keep(0)", x.keep(0), 0);
        due("back(0), kept", x.back(0), 0);
        due("threads()", x.threads(), 0);
    }

    private static void placesAtFirst() {
        WaitPlaces x = new WaitPlaces();
        for (int p = 0; p < 3; p++) Check.duePlace("new", x, p, "0-000");
        for (int p = 0; p < 3; p++) due("final of " + p, x.can(p, 0), 1);
        for (int p = 0; p < 3; p++) due("owned " + p, x.can(p, 1), 0);
        Check.tell(x, "tl0l1l2x;");
        for (int p = 0; p < 3; p++) Check.duePlace("told", x, p, "0-000");
        Check.steps(x, "000");
        for (int p = 0; p < 3; p++) Check.duePlace("owned", x, p, "00000");
        Check.steps(x, "0");
        for (int p = 0; p < 3; p++) Check.duePlace("dead", x, p, "0-100");
    }

    private static void placesAndLeastValue() {
        WaitPlaces x = Check.told("v0 0;v1 0;v2 0;");
        for (int p = 0; p < 3; p++) due("value of " + p, x.place(p, 0), 0);
        due("place(-1, 0)", x.place(-1, 0), BAD);
        due("place(3, 0)", x.place(3, 0), BAD);
        fault("v3 0;", 1);
        fault("ti3;", 2);
    }

    private static void greatestValue() {
        WaitPlaces x = new WaitPlaces();
        due("items", Check.tell(x, "v0 3;v2 3;"), 2);
        due("told", x.place(0, 0), 3);
        due("not told", x.place(1, 0), 0);
        due("told, the last place", x.place(2, 0), 3);
        fault("v0 4;", 3);
        fault("ts0 4;", 4);
    }

    private static void fourThreads() {
        WaitPlaces x = new WaitPlaces();
        StringBuilder text = new StringBuilder();
        for (int n = 0; n <= 4; n++) {
            due("items, " + n, Check.tell(x, text.toString()), n);
            due("threads, " + n, x.count(0), n);
            for (int t = -1; t < 6; t++) due("thread " + t + " of " + n, x.thread(t, 0), t >= 0 && t < n ? 0 : BAD);
            for (int t = -1; t < 6; t++) due("step " + t + " of " + n, x.step(t), t >= 0 && t < n ? 1 : BAD);
            text.append("ti0;");
        }
        due("a fifth", Check.tell(x, text.toString()), -10 - 16);
    }

    private static void ranks() {
        WaitPlaces x = Check.told("t;t;t;t;r0 0;r1 3;r3 3;");
        int[] want = {0, 3, 0, 3};
        for (int t = 0; t < 4; t++) due("rank of " + t, x.thread(t, 3), want[t]);
        for (int t = 0; t < 4; t++) due("lent rank of " + t, x.thread(t, 4), want[t]);
        fault("t;r0 4;", 5);
    }

    private static void programLengths() {
        WaitPlaces x = Check.told("t;ti0;ti1i1i1i1i1;");
        Check.dueThread("no operations", x, 0, "03-000");
        due("no step of none", x.step(0), STATE);
        due("the only step", x.step(1), 1);
        Check.dueThread("one operation", x, 1, "13-000");
        due("no second step", x.step(1), STATE);
        for (int n = 1; n <= 5; n++) {
            due("not done ahead of step " + n, x.thread(2, 1), 0);
            due("step " + n, x.step(2), n);
        }
        Check.dueThread("five operations", x, 2, "53-000");
        due("no sixth step", x.step(2), STATE);
        fault("ti1i1i1i1i1i1;", 11);
    }

    private static String blanks(int howMany) {
        return " ".repeat(howMany);
    }

    private static void longestText() {
        WaitPlaces x = new WaitPlaces();
        String text = "ti0" + blanks(111) + ";r0 3;";
        Check.type(x, text);
        due("letters", x.count(4), 120);
        due("one more", x.type('v'), FULL);
        due("items of 120 letters", x.threads(), 2);
        due("told by the last letters", x.thread(0, 3), 3);
        Check.type(x, blanks(114) + "v1 1;t;");
        due("of 121 letters the last is lost", x.threads(), -130);
        due("none of it is told", x.place(1, 0), 0);
    }

    private static void blanks() {
        WaitPlaces x = new WaitPlaces();
        due("wherever they may be", Check.tell(x, "  v  0  1  ;  t  i  0  ;  r  0  3  ; "), 3);
        due("value", x.place(0, 0), 1);
        due("rank", x.thread(0, 3), 3);
        due("nowhere but between numbers", Check.tell(x, "v0 2;ti0;r0 2;"), 3);
        due("value again", x.place(0, 0), 2);
        due("rank again", x.thread(0, 3), 2);
        items("", 0);
        items(" ", 0);
        items(blanks(120), 0);
        int[] others = {0, 9, 10, 11, 12, 13, 31, 33, 95, 127, 160, 255};
        for (int letter : others) {
            fault("v0" + (char) letter + "1;", 2);
            fault((char) letter + "t;", 0);
            fault("t;" + (char) letter, 2);
        }
    }

    private static void ends() {
        fault(";", 0);
        fault("v0 1;;", 5);
        fault("t;;", 2);
        fault("v0 1v1 1;", 4);
        fault("v0 1 t;", 5);
        fault("t t;", 2);
        fault("ti0 v0 1;", 4);
        fault("t;r0 1r0 1;", 6);
        fault("v0 1", 4);
        fault("t", 1);
        items("t;v0 1;", 2);
    }

    private static void valueItems() {
        items("v0 0;", 1);
        items("v2 3;", 1);
        fault("v;", 1);
        fault("v0;", 2);
        fault("v0 1 1;", 5);
        fault("v3 1;", 1);
        fault("v0 4;", 3);
        fault("v t;", 2);
        fault("v0 t;", 3);
    }

    private static void threadItems() {
        WaitPlaces x = new WaitPlaces();
        due("threads among other items", Check.tell(x, "v0 1;t;v1 1;ti0;t;"), 5);
        int[] how = {3, 0, 3};
        for (int t = 0; t < 3; t++) due("the next thread, " + t, x.thread(t, 1), how[t]);
        fault("t0;", 1);
        fault("tt;", 1);
        fault("tr;", 1);
        fault("tv0 1;", 1);
    }

    private static void rankItems() {
        for (int n = 0; n <= 4; n++) {
            String ahead = "t;".repeat(n);
            for (int t = 0; t <= 9; t++) {
                String text = ahead + "r" + t + " 1;";
                if (t < n) items(text, n + 1);
                else fault(text, ahead.length() + 1);
            }
        }
        fault("r0 1;t;", 1);
        fault("t;r1 1;t;", 3);
        fault("t;r;", 3);
        fault("t;r0;", 4);
        fault("t;r0 1 1;", 7);
        fault("t;r0 4;", 5);
    }

    /** A first number, a second one, if there is one, and no third. */
    private static void twoNumbers(char letter) {
        String ahead = "t" + letter;
        items(ahead + "0 1;", 1);
        fault(ahead + ";", 2);
        fault(ahead + "0;", 3);
        fault(ahead + "0 1 1;", 6);
        fault(ahead + "3 1;", 2);
        fault(ahead + "x;", 2);
        fault(ahead + "0x;", 3);
    }

    private static void oneNumber(char letter) {
        String ahead = "t" + letter;
        items(ahead + "0;", 1);
        items(ahead + "2;", 1);
        fault(ahead + ";", 2);
        fault(ahead + "0 1;", 4);
        fault(ahead + "3;", 2);
        fault(ahead + "x;", 2);
    }

    private static void operations() {
        for (char letter : "swb".toCharArray()) {
            twoNumbers(letter);
            items("t" + letter + "2 0;", 1);
            items("t" + letter + "2 3;", 1);
            fault("t" + letter + "2 4;", 4);
        }
        oneNumber('i');
    }

    private static void wakeCounts() {
        twoNumbers('k');
        fault("tk0 0;", 4);
        items("tk0 1;", 1);
        items("tk2 3;", 1);
        fault("tk0 4;", 4);
    }

    private static void moves() {
        twoNumbers('q');
        for (int p = 0; p < 3; p++) {
            for (int q = 0; q <= 9; q++) {
                String text = "tq" + p + " " + q + ";";
                if (q < 3 && q != p) items(text, 1);
                else fault(text, 4);
            }
        }
    }

    private static void operationsOfOwners() {
        oneNumber('l');
        oneNumber('u');
        items("tx;", 1);
        fault("tx0;", 2);
        fault("t x 0;", 4);
    }

    private static void everyLetter() {
        for (int letter = 0; letter < 256; letter++) {
            String sign = "" + (char) letter;
            if (letter == ' ') items(sign, 0);
            else fault(sign, "vtr".contains(sign) ? 1 : 0);
            if (letter == ';') items("t" + sign, 1);
            else fault("t" + sign, letter == ' ' || "siwbkqlux".contains(sign) ? 2 : 1);
            if (letter == ';') items("v0 1" + sign, 1);
            else fault("v0 1" + sign, letter == ' ' ? 5 : letter >= '0' && letter <= '9' ? 3 : 4);
        }
    }

    private static void firstFault() {
        fault("v3 4;y", 1);
        fault("v0 4;v3 0;", 3);
        fault("v0 1;  v3 0;", 8);
        fault("  y", 2);
        fault("y v0 10;", 0);
        fault("v0 10;y", 3);
        fault("v0 1 00;", 5);
        fault("t;t;t;t;t 99;", 8);
        fault("txxxxxy;", 6);
        fault("ti0   3;", 6);
    }

    private static void fifthThread() {
        items("t;t;t;t;", 4);
        fault("t;t;t;t;t;", 8);
        fault("t;t;t;t;t", 8);
        fault("t;t;t;t;v0 1;   t;", 16);
        fault("txxxxx;txxxxx;txxxxx;txxxxx;ty;", 28);
    }

    private static void sixthOperation() {
        items("txxxxx;", 1);
        fault("txxxxxx;", 6);
        fault("txxxxxi0;", 6);
        fault("txxxxx   s0 0;", 9);
        fault("txxxxxx", 6);
        fault("ts0 0w0 0b0 0k0 1q0 1l0;", 21);
        fault("t;t;t;ti0i0i0i0i0i0;", 17);
    }

    private static void moveToItself() {
        fault("tq0 0;", 4);
        fault("tq1 1;", 4);
        fault("tq2 2;", 4);
        fault("tq1   1;", 6);
        items("tq0 1q1 0q1 2q2 1q2 0;", 1);
    }

    private static void numbersBeyond() {
        for (String[] slot : SLOTS) {
            for (int digit = 0; digit <= 9; digit++) {
                String text = slot[0] + digit + slot[2];
                if (slot[1].indexOf('0' + digit) >= 0) items(text, slot[0].startsWith("t;") ? 2 : 1);
                else fault(text, slot[0].length());
            }
        }
        for (int digit = 3; digit <= 9; digit++) fault("tq" + digit + " 0;", 2);
    }

    private static void otherLetters() {
        String others = "aAVTSIWBKQLUXRyz,.-+:_#'\"/";
        for (char letter : others.toCharArray()) {
            fault("" + letter, 0);
            fault("t" + letter + ";", 1);
            fault("tl" + letter + ";", 2);
            fault("ti0" + letter + ";", 3);
            fault("v" + letter + "0 1;", 1);
            fault("v0 " + letter + "1;", 3);
            fault("v0 1" + letter + ";", 4);
            fault("t;r0 1;" + letter + letter, 7);
        }
        fault("t;" + (char) 0, 2);
        fault("t;" + (char) 128, 2);
        fault("t;" + (char) ('t' + 128), 2);
        fault("t;" + (char) 255, 2);
    }

    private static void numbersInSlots(String[] numbers) {
        for (String[] slot : SLOTS) {
            for (String number : numbers) fault(slot[0] + number + slot[2], slot[0].length());
        }
        for (String number : numbers) {
            fault(number, 0);
            fault("t;" + number, 2);
            fault("ti0 " + number + ";", 4);
        }
    }

    private static void numbersAboveNine() {
        items("v1 1;", 1);
        numbersInSlots(new String[] {
            "10", "11", "12", "20", "99", "100", "256", "257", "65537", "2147483648", "4294967296", "4294967297",
            "4294967298", "18446744073709551617", "1".repeat(110),
        });
    }

    private static void leadingZeros() {
        items("v0 0;", 1);
        numbersInSlots(new String[] {"00", "01", "02", "03", "001", "010", "0000000001", "0".repeat(110)});
        fault("v01;", 1);
        fault("v0 01;", 3);
    }

    private static void textsThatEndTooEarly() {
        String text = " v2 3 ;t s0 0i1w2 3b0 1k1 3 ; tq0 2l1u2x;t;r1 2; r2  0;";
        int items = 0;
        for (int n = 0; n <= text.length(); n++) {
            String start = text.substring(0, n);
            if (start.endsWith(";")) items++;
            if (start.isBlank() || start.trim().endsWith(";")) items(start, items);
            else fault(start, n);
        }
        fault("v0 1   ", 7);
        fault("t" + blanks(119), 120);
        fault(blanks(118) + "v1", 120);
        fault("txxxxx", 6);
    }

    private static void toldAgain() {
        WaitPlaces x = new WaitPlaces();
        due("items", Check.tell(x, "v1 1;v1 2;t;r0 3;r0 1;v1 0;v1 3;"), 7);
        due("value told last", x.place(1, 0), 3);
        due("rank told last", x.thread(0, 3), 1);
        due("items", Check.tell(x, "v1 3;t;r0 3;v1 0;r0 0;"), 5);
        due("value told last is 0", x.place(1, 0), 0);
        due("rank told last is 0", x.thread(0, 3), 0);
        StringBuilder full = new StringBuilder();
        for (int i = 0; i < 24; i++) full.append("v0 ").append(i % 4).append(';');
        due("as often as there is room", Check.tell(x, full.toString()), 24);
        due("the 24th", x.place(0, 0), 3);
    }

    private static void letters() {
        for (int from = 0; from < 256; from += 64) {
            WaitPlaces x = new WaitPlaces();
            for (int n = 0; n < 64; n++) due("type(" + (from + n) + ")", x.type(from + n), n + 1);
            due("letters", x.count(4), 64);
        }
        WaitPlaces x = new WaitPlaces();
        for (int n = 1; n <= 120; n++) due("letter " + n, x.type('t'), n);
    }

    private static void noLetters() {
        WaitPlaces x = new WaitPlaces();
        int[] others = {-1, 256, -256, 257, 256 + 't', 't' - 256, 65536 + 't', LOW, LOW + 't', HIGH};
        for (int letter : others) due("type(" + letter + ")", x.type(letter), BAD);
        due("no letters", x.count(4), 0);
        for (int n = 1; n <= 120; n++) x.type(' ');
        for (int letter : others) due("type(" + letter + ") at 120", x.type(letter), BAD);
        due("120 letters", x.count(4), 120);
    }

    private static void fullText() {
        WaitPlaces x = new WaitPlaces();
        for (int n = 1; n <= 119; n++) x.type(' ');
        due("the 120th", x.type(';'), 120);
        due("the 121st", x.type('t'), FULL);
        due("once more", x.type(0), FULL);
        due("and once more", x.type(255), FULL);
        due("120 letters", x.count(4), 120);
        due("the 120th is as it was", x.threads(), -10 - 119);
        due("full behind a fault", x.type('t'), FULL);
        due("clear", x.clear(), 120);
        due("room again", x.type('t'), 1);
        x.clear();
        for (int n = 1; n <= 120; n++) x.type(' ');
        due("120 blanks", x.threads(), 0);
        due("room behind threads", x.type('t'), 1);
    }

    private static void clear() {
        WaitPlaces x = new WaitPlaces();
        due("of nothing", x.clear(), 0);
        Check.type(x, "v1 1;");
        due("of 5", x.clear(), 5);
        due("no letters", x.count(4), 0);
        due("again", x.clear(), 0);
        Check.type(x, "0".repeat(120));
        due("of 120", x.clear(), 120);
        due("nothing is left of it", Check.tell(x, "t;"), 1);
        Check.type(x, "v0 12");
        x.clear();
        due("no digit is left of it, either", Check.tell(x, "v0 1"), -14);
        x.clear();
        Check.type(x, "y");
        due("a fault", x.threads(), -10);
        due("of one that has a fault", x.clear(), 1);
        due("the threads stay", x.count(0), 1);
    }

    private static void countsItems() {
        WaitPlaces x = new WaitPlaces();
        due("of an empty text", x.threads(), 0);
        due("of one", Check.tell(x, "t;"), 1);
        due("the text is empty then", x.count(4), 0);
        due("nothing to clear", x.clear(), 0);
        due("the next letter is the first", x.type('v'), 1);
        due("of 60", Check.tell(x, "t;".repeat(4) + "r0 1;".repeat(22)), 26);
        due("all four", x.count(0), 4);
        due("an empty text tells all anew, too", x.threads(), 0);
        due("no threads", x.count(0), 0);
        due("thread(0, 0)", x.thread(0, 0), BAD);
    }

    private static void readAnew() {
        WaitPlaces x = Check.told("v0 3;tl0xi0;tl0;tw1 0;tb2 0;r1 2;");
        Check.steps(x, "0123");
        Check.steps(x, "0");
        x.keep(0);
        x.keep(1);
        x.sees(0, 0);
        due("told anew", Check.tell(x, "v1 1;ti1i1;tl0;tl0;r1 1;"), 5);
        Check.duePlace("not told", x, 0, "0-000");
        Check.duePlace("told", x, 1, "1-000");
        Check.dueThread("anew", x, 0, "00-000");
        Check.dueThread("anew", x, 1, "00-110");
        Check.dueThread("anew", x, 2, "00-000");
        due("no thread 3", x.thread(3, 0), BAD);
        Check.dueRow("anew", x, "");
        due("found", x.count(2), 0);
        due("SEEN", x.count(3), 0);
        due("may be undone", x.count(5), 0);
        due("undo()", x.undo(), STATE);
        due("back(0)", x.back(0), STATE);
        due("back(1)", x.back(1), STATE);
        due("unseen(0)", x.unseen(0), 2);
        due("the same again", Check.tell(x, "tl0x;"), 1);
        Check.steps(x, "00");
        due("dead", x.place(0, 2), 1);
        due("and again", Check.tell(x, "tl0x;"), 1);
        due("not dead", x.place(0, 2), 0);
        due("nothing behind", x.thread(0, 0), 0);
        for (int n = 0; n < 2; n++) {
            due("values and ranks", Check.tell(x, "v0 1;v1 2;v2 3;tb0 1;tb1 2;tb2 3;tb0 1;r0 3;r1 2;r2 1;r3 3;"), 11);
            Check.steps(x, "0123");
        }
        for (int n = 0; n < 2; n++) {
            due("neither", Check.tell(x, "tb0 0;tb1 0;tb2 0;tb0 0;"), 4);
            for (int p = 0; p < 3; p++) Check.duePlace("neither", x, p, "0-000");
            for (int t = 0; t < 4; t++) Check.dueThread("neither", x, t, "00-000");
            Check.steps(x, "0123");
        }
    }

    private static void leastAndGreatestFault() {
        fault("y", 0);
        fault("0", 0);
        fault(" y", 1);
        fault(blanks(119) + "y", 119);
        fault(blanks(119) + "t", 120);
        fault(blanks(117) + "t;y", 119);
    }

    private static void faultChangesNothing() {
        String[] texts = {"y", "v0 1;v1 1;v2 1;r0 1;", "t;t;t;t;t;", "tx;tx;r1 3;r0 3;r2 3;", "v0 1;t", blanks(120).substring(1) + "v"};
        for (String text : texts) {
            WaitPlaces x = Check.told("v0 3;tl0xi0;tl0l1;tb2 0;tw2 0;r1 2;");
            Check.steps(x, "0123");
            x.keep(0);
            x.sees(0, 0);
            Check.type(x, text);
            String ahead = look(x);
            due("threads() of '" + text + "' is refused", x.threads() <= -10 ? 1 : 0, 1);
            Check.same("behind '" + text + "'", look(x), ahead);
            due("letters", x.count(4), text.length());
            due("a step as told before", x.step(0), 2);
            due("found", x.count(2), 1);
            due("the step may be undone", x.undo(), 4);
            due("the image is there", x.back(0), 4);
            due("the other is not", x.back(1), STATE);
            due("the text is there", x.clear(), text.length());
        }
    }
}
