/** Sentences about how things are and what a step does: terms, part 2, and promises 5 to 9. */
final class StepBoundaries extends Boundaries {
    private StepBoundaries() {
    }

    static void tests() {
        test(6, "A THREAD is AWAKE (at first), ASLEEP at a PLACE, or WAITS to own one; DONE, if its program is over.",
            StepBoundaries::howThreadsAre);
        test(7, "Those ASLEEP, those that WAIT stand in one ROW, in the order in which they came to it.", StepBoundaries::fullRow);
        test(8, "A STEP of a THREAD that is AWAKE and not DONE does its next OPERATION:", StepBoundaries::nextOperation);
        test(8, "s: VALUE of P becomes V.", StepBoundaries::sets);
        test(8, "i: it becomes one more (3 becomes 0).", StepBoundaries::wrapsAround);
        test(8, "w: if VALUE of P is V, it is ASLEEP at P; else it goes on.", StepBoundaries::waitsAtOnce);
        test(8, "b: likewise, but that takes two STEPS:", StepBoundaries::waitsInTwoSteps);
        test(8, "the first looks (if VALUE is not V, it goes on at once),", StepBoundaries::looksFirst);
        test(8, "the second lets it be ASLEEP, whatever VALUE is then.", StepBoundaries::sleepsWhateverTheValue);
        test(8, "k: of those ASLEEP at P the first N of THE ROW are AWAKE.", StepBoundaries::wakes);
        test(8, "q: of those ASLEEP at P the first one is AWAKE, all others are ASLEEP at Q (their order stays).", StepBoundaries::moves);
        test(8, "l: if P has no OWNER, it owns it", StepBoundaries::ownsAFreeOne);
        test(8, "(P is not DEAD any more; it FOUND it DEAD, if it was);", StepBoundaries::findsADeadOne);
        test(8, "else, if it is the OWNER,", StepBoundaries::ownsItAlready);
        test(8, "or its OWNER, or the one that owns what that WAITS for, and so on, is this THREAD, it goes on without it;",
            StepBoundaries::goesOnWithout);
        test(8, "else it WAITS for P.", StepBoundaries::waitsForAnOwner);
        test(8, "u: if it owns P: if some WAIT for P, the one of highest LENT RANK,", StepBoundaries::handsOnToTheHighest);
        test(8, "of several the first of THE ROW, owns it, and is AWAKE;", StepBoundaries::handsOnToTheFirst);
        test(8, "else P has no OWNER.", StepBoundaries::handsOnToNobody);
        test(8, "If it does not own it, it goes on.", StepBoundaries::unlocksWhatItDoesNotOwn);
        test(8, "x: the THREAD is DONE; each PLACE that it owns is DEAD, and is handed on as by u", StepBoundaries::dies);
        test(8, "(who gets it FOUND it DEAD; it is not DEAD then).", StepBoundaries::inherits);
        test(8, "Who is AWAKE again goes on behind its w, b, l.", StepBoundaries::goesOnBehind);
        test(8, "A THREAD that is DONE owns what it owned (but by x).", StepBoundaries::doneAndOwns);
        test(6, "LENT RANK: the greatest of its RANK, and of LENT RANKS of THREADS that WAIT for PLACES that it owns.",
            StepBoundaries::lendsAlongChains);
        test(9, "UNDONE: the latest step() that was not refused", StepBoundaries::undoesTheLatest);
        test(9, "(12 are known, older ones are lost).", StepBoundaries::undoesTwelve);

        test(5, "Of a PLACE: 0 VALUE,", StepBoundaries::placeValue);
        test(5, "1 OWNER (NONE),", StepBoundaries::placeOwner);
        test(5, "2 whether it is DEAD (1, 0),", StepBoundaries::placeDead);
        test(5, "3 how many are ASLEEP there,", StepBoundaries::placeAsleep);
        test(5, "4 how many WAIT for it.", StepBoundaries::placeWaiting);
        test(5, "BAD.", StepBoundaries::noPlace);
        test(6, "Of a THREAD: 0 how many OPERATIONS are behind it,", StepBoundaries::threadBehind);
        test(6, "1 how it is (0 AWAKE, 1 ASLEEP, 2 WAITS, 3 DONE),", StepBoundaries::threadHow);
        test(6, "2 the PLACE of that (NONE),", StepBoundaries::threadWhere);
        test(6, "3 RANK, 4 LENT RANK,", StepBoundaries::threadRanks);
        test(6, "5 whether it is between both STEPS of b (1, 0).", StepBoundaries::threadBetween);
        test(6, "BAD.", StepBoundaries::noThread);
        test(7, "The k-th of THE ROW (0 on);", StepBoundaries::rowInOrder);
        test(7, "NONE.", StepBoundaries::behindTheRow);
        test(7, "BAD.", StepBoundaries::noRow);
        test(8, "A STEP: how many OPERATIONS are behind it then.", StepBoundaries::stepAnswers);
        test(8, "BAD;", StepBoundaries::stepOfNoThread);
        test(8, "STATE: it is not AWAKE, or DONE.", StepBoundaries::stepRefused);
        test(9, "UNDONE: how many more may be.", StepBoundaries::undoAnswers);
        test(9, "STATE: none.", StepBoundaries::nothingToUndo);
    }

    private static void howThreadsAre() {
        WaitPlaces x = Check.told("t;tw1 0i0;tl2;tl2i0;");
        Check.dueThread("an empty program is over", x, 0, "03-000");
        for (int t = 1; t < 4; t++) Check.dueThread("at first", x, t, "00-000");
        Check.steps(x, "123");
        Check.dueThread("asleep", x, 1, "011000");
        Check.dueThread("done", x, 2, "13-000");
        Check.dueThread("waits", x, 3, "022000");
    }

    private static void fullRow() {
        WaitPlaces x = Check.told("tl0w0 0i0;tl0;tw1 0;tb2 0i0;");
        Check.dueRow("empty", x, "");
        Check.steps(x, "01");
        Check.dueRow("one", x, "1");
        Check.steps(x, "330");
        Check.dueRow("sleepers behind one that waits", x, "130");
        Check.steps(x, "2");
        Check.dueRow("all four", x, "1302");
        due("row(4)", x.row(4), NONE);
        Check.tell(x, "tw0 0;tw0 0;tw0 0;tw0 0;");
        Check.steps(x, "3210");
        Check.dueRow("all four at one place", x, "3210");
        Check.tell(x, "tw0 0w0 0;tw0 0;tk0 1;");
        Check.steps(x, "012");
        Check.dueRow("the first has left", x, "1");
        Check.steps(x, "0");
        Check.dueRow("who comes again is the last", x, "10");
    }

    private static void nextOperation() {
        WaitPlaces x = Check.told("ti0i1i2i0i1;");
        String[] want = {"100", "110", "111", "211", "221"};
        for (int n = 0; n < 5; n++) {
            due("step " + n, x.step(0), n + 1);
            Check.same("values", "" + x.place(0, 0) + x.place(1, 0) + x.place(2, 0), want[n]);
        }
        due("done", x.step(0), STATE);
        Check.same("values stay", "" + x.place(0, 0) + x.place(1, 0) + x.place(2, 0), want[4]);
    }

    private static void sets() {
        for (int from = 0; from < 4; from++) {
            for (int to = 0; to < 4; to++) {
                WaitPlaces x = Check.told("v0 " + from + ";v1 " + from + ";v2 " + from + ";ts2 " + to + ";");
                due("step", x.step(0), 1);
                Check.same("from " + from, "" + x.place(0, 0) + x.place(1, 0) + x.place(2, 0), "" + from + from + to);
            }
        }
    }

    private static void wrapsAround() {
        WaitPlaces x = Check.told("v2 3;ti0i0i0i0i0;ti2i2;");
        int[] want = {1, 2, 3, 0, 1};
        for (int n = 0; n < 5; n++) {
            due("step", x.step(0), n + 1);
            due("value behind " + (n + 1), x.place(0, 0), want[n]);
        }
        due("other values", x.place(1, 0), 0);
        due("3 so far", x.place(2, 0), 3);
        Check.steps(x, "1");
        due("3 becomes 0", x.place(2, 0), 0);
        due("no place beside it", x.place(1, 0), 0);
        Check.steps(x, "1");
        due("0 becomes 1", x.place(2, 0), 1);
    }

    private static void waitsAtOnce() {
        for (int value = 0; value < 4; value++) {
            for (int v = 0; v < 4; v++) {
                WaitPlaces x = Check.told("v2 " + value + ";tw2 " + v + "i0;");
                due("w2 " + v + " at " + value, x.step(0), v == value ? 0 : 1);
                Check.dueThread("w2 " + v + " at " + value, x, 0, v == value ? "012000" : "10-000");
                Check.dueRow("w2 " + v + " at " + value, x, v == value ? "0" : "");
                due("the value stays", x.place(2, 0), value);
            }
        }
    }

    private static void waitsInTwoSteps() {
        WaitPlaces x = Check.told("v1 3;tb1 3;");
        due("first", x.step(0), 0);
        Check.dueThread("between", x, 0, "00-001");
        Check.dueRow("between", x, "");
        due("nobody sleeps yet", x.place(1, 3), 0);
        due("second", x.step(0), 0);
        Check.dueThread("asleep", x, 0, "011000");
        Check.dueRow("asleep", x, "0");
        due("no third", x.step(0), STATE);
    }

    private static void looksFirst() {
        for (int value = 0; value < 4; value++) {
            for (int v = 0; v < 4; v++) {
                WaitPlaces x = Check.told("v0 " + value + ";tb0 " + v + "i1;");
                due("b0 " + v + " at " + value, x.step(0), v == value ? 0 : 1);
                Check.dueThread("b0 " + v + " at " + value, x, 0, v == value ? "00-001" : "10-000");
            }
        }
        WaitPlaces y = Check.told("tb0 1;");
        due("the last operation", y.step(0), 1);
        Check.dueThread("done at once", y, 0, "13-000");
    }

    private static void sleepsWhateverTheValue() {
        for (int value = 0; value < 4; value++) {
            WaitPlaces x = Check.told("tb0 0i1;ts0 " + value + "k0 3;");
            Check.steps(x, "011");
            due("second step at " + value, x.step(0), 0);
            Check.dueThread("asleep at " + value, x, 0, "010000");
            due("the value", x.place(0, 0), value);
        }
        WaitPlaces y = Check.told("tb0 0i1;tq0 1k0 3x;");
        Check.steps(y, "0111");
        Check.dueThread("between, though others wake and move", y, 0, "00-001");
        Check.steps(y, "0");
        Check.dueThread("asleep at its own place", y, 0, "010000");
    }

    /** Threads 0 to 2 that sleep at place 0, the last of them first, and thread 3 with an operation. */
    private static WaitPlaces sleepers(int howMany, String operation) {
        WaitPlaces x = Check.told("tw0 0i1;tw0 0i1;tw0 0i1;t" + operation + ";");
        Check.steps(x, "210".substring(0, howMany));
        return x;
    }

    private static void wakes() {
        for (int asleep = 0; asleep <= 3; asleep++) {
            for (int n = 1; n <= 3; n++) {
                WaitPlaces x = sleepers(asleep, "k0 " + n);
                String what = "k0 " + n + " of " + asleep;
                due(what, x.step(3), 1);
                Check.dueRow(what, x, "210".substring(Math.min(n, asleep), asleep));
                due(what + ": asleep", x.place(0, 3), Math.max(0, asleep - n));
                for (int t = 0; t < 3; t++) {
                    String want = t < 3 - asleep ? "00-000" : t >= 3 - Math.min(n, asleep) ? "10-000" : "010000";
                    Check.dueThread(what, x, t, want);
                }
            }
        }
        WaitPlaces y = Check.told("tl0;tl0;tw1 0;tk0 3k2 3k1 1;");
        Check.steps(y, "012");
        Check.steps(y, "33");
        Check.dueRow("not those at other places, not those that wait", y, "12");
        Check.steps(y, "3");
        Check.dueRow("the one at that place", y, "1");
    }

    private static void moves() {
        for (int asleep = 0; asleep <= 3; asleep++) {
            WaitPlaces x = sleepers(asleep, "q0 2");
            String what = "q0 2 of " + asleep;
            due(what, x.step(3), 1);
            Check.dueRow(what, x, "210".substring(Math.min(1, asleep), asleep));
            due(what + ": asleep at 0", x.place(0, 3), 0);
            due(what + ": asleep at 2", x.place(2, 3), Math.max(0, asleep - 1));
            for (int t = 0; t < 3; t++) Check.dueThread(what, x, t, t < 3 - asleep ? "00-000" : t == 2 ? "10-000" : "012000");
        }
        WaitPlaces y = Check.told("tw0 0;tw1 0;tw0 0;tq0 1k1 1k1 1;");
        Check.steps(y, "0123");
        Check.dueRow("one that slept at Q sleeps on, ahead", y, "12");
        Check.steps(y, "3");
        Check.dueRow("and is woken first", y, "2");
        WaitPlaces z = Check.told("tw0 0;tw1 0;tw0 0;tq0 1k1 1;");
        Check.steps(z, "0213");
        Check.dueRow("who was moved is ahead of who came later", z, "21");
        Check.steps(z, "3");
        Check.dueRow("and is woken first", z, "1");
        WaitPlaces w = Check.told("tl0;tl0;tl0;tq0 1;");
        Check.steps(w, "0123");
        due("those that wait stay", w.place(0, 4), 2);
        Check.dueRow("those that wait stay", w, "12");
    }

    private static void ownsAFreeOne() {
        WaitPlaces x = Check.told("tl0l1l2;tl2;");
        for (int p = 0; p < 3; p++) {
            due("l" + p, x.step(0), p + 1);
            for (int q = 0; q < 3; q++) due("owner of " + q, x.place(q, 1), q <= p ? 0 : NONE);
        }
        Check.dueRow("none waits", x, "");
        due("nothing was found dead", x.count(2), 0);
    }

    private static void findsADeadOne() {
        WaitPlaces x = Check.told("tl0x;tl0u0l0;tl1l0;");
        Check.steps(x, "00");
        Check.duePlace("dead", x, 0, "0-100");
        Check.steps(x, "2");
        due("another place was not dead", x.count(2), 0);
        Check.steps(x, "1");
        Check.duePlace("found", x, 0, "01000");
        due("found once", x.count(2), 1);
        Check.steps(x, "1");
        Check.duePlace("free, and not dead any more", x, 0, "0-000");
        Check.steps(x, "1");
        due("not found again", x.count(2), 1);
    }

    private static void ownsItAlready() {
        WaitPlaces x = Check.told("tl0l0l0u0l0;tl0;");
        Check.steps(x, "0");
        due("l of its own", x.step(0), 2);
        Check.duePlace("its own", x, 0, "00000");
        Check.steps(x, "10");
        Check.duePlace("still its own, another waits", x, 0, "00001");
        Check.steps(x, "0");
        Check.duePlace("one u is enough", x, 0, "01000");
        due("now another's", x.step(0), 4);
        due("it waits", x.thread(0, 1), 2);
    }

    private static void goesOnWithout() {
        WaitPlaces x = Check.told("tl0l1;tl1l0u0;");
        Check.steps(x, "010");
        due("two", x.step(1), 2);
        Check.duePlace("two: the owner stays", x, 0, "00000");
        Check.dueThread("two: goes on", x, 1, "20-000");
        Check.dueRow("two", x, "0");

        WaitPlaces y = Check.told("tl0l1;tl1l2;tl2l0i0;tl0;");
        Check.steps(y, "01201");
        due("three", y.step(2), 2);
        Check.duePlace("three: the owner stays", y, 0, "00000");
        Check.dueThread("three: goes on", y, 2, "20-000");
        Check.dueRow("three", y, "01");
        due("one that stands outside", y.step(3), 0);
        Check.dueRow("it waits", y, "013");
    }

    private static void waitsForAnOwner() {
        WaitPlaces x = Check.told("tl0;tl0;");
        Check.steps(x, "01");
        Check.dueThread("the owner is done", x, 1, "020000");

        WaitPlaces y = Check.told("tl0w1 0;tl2l0;");
        Check.steps(y, "0101");
        Check.dueThread("the owner sleeps", y, 1, "120000");
        Check.dueRow("the owner sleeps", y, "01");

        WaitPlaces w = Check.told("tl0w1 0;tl1l0;");
        Check.steps(w, "0101");
        Check.dueThread("the owner sleeps at a place that the other owns", w, 1, "120000");

        WaitPlaces z = Check.told("tl0l1;tl1i0;tl2l0;");
        Check.steps(z, "01202");
        Check.dueThread("the owner waits for one that goes on", z, 2, "120000");
        Check.dueRow("the owner waits for one that goes on", z, "02");
        due("both wait", z.place(0, 4) * 10 + z.place(1, 4), 11);
    }

    /** Thread 0 owns place 0; 1, 2 and 3 wait for it in this order, with these ranks. */
    private static WaitPlaces heirs(String ranks) {
        StringBuilder text = new StringBuilder("tl0u0;tl0i1;tl0i1;tl0i1;");
        for (int t = 0; t < 4; t++) text.append('r').append(t).append(' ').append(ranks.charAt(t)).append(';');
        WaitPlaces x = Check.told(text.toString());
        Check.steps(x, "0123");
        return x;
    }

    private static void handsOnToTheHighest() {
        String[] ranks = {"0100", "0010", "0001", "3122", "3011", "0123", "0213", "0321", "0332", "0233"};
        int[] heir = {1, 2, 3, 2, 2, 3, 3, 1, 1, 2};
        for (int n = 0; n < ranks.length; n++) {
            WaitPlaces x = heirs(ranks[n]);
            due("u", x.step(0), 2);
            due("the heir among ranks " + ranks[n], x.place(0, 1), heir[n]);
            due("it is awake", x.thread(heir[n], 1), 0);
            due("two wait", x.place(0, 4), 2);
        }
        WaitPlaces y = Check.told("tl0u0;tl1l0;tl0;tl1;r3 3;r2 2;");
        Check.steps(y, "01213");
        due("lent", y.thread(1, 4), 3);
        Check.steps(y, "0");
        due("lent beats its own", y.place(0, 1), 1);
    }

    private static void handsOnToTheFirst() {
        WaitPlaces x = heirs("0000");
        Check.steps(x, "0");
        due("all are equal", x.place(0, 1), 1);
        Check.dueThread("awake behind its l", x, 1, "10-000");
        Check.dueRow("the others", x, "23");
        WaitPlaces y = Check.told("tl0u0;tl0;tl0;tl0;r1 2;r2 3;r3 3;");
        Check.steps(y, "0321");
        Check.dueRow("they came the other way round", y, "321");
        Check.steps(y, "0");
        due("the first of the highest", y.place(0, 1), 3);
        WaitPlaces z = Check.told("tl0u0;tw1 0l0;tl0;tl0;");
        Check.steps(z, "0132");
        Check.dueRow("a sleeper is ahead", z, "132");
        Check.steps(z, "0");
        due("but a sleeper does not wait", z.place(0, 1), 3);
        Check.dueRow("it sleeps on", z, "12");
    }

    private static void handsOnToNobody() {
        WaitPlaces x = Check.told("tl0l1u0u1;tw0 0;tl1;");
        Check.steps(x, "0012");
        due("u", x.step(0), 3);
        Check.duePlace("nobody waits for it", x, 0, "0-010");
        Check.duePlace("the other is owned", x, 1, "00001");
        due("u", x.step(0), 4);
        Check.duePlace("handed on", x, 1, "02000");
    }

    private static void unlocksWhatItDoesNotOwn() {
        WaitPlaces x = Check.told("tl0i1;tu0u1u2;tl0;tl1x;");
        Check.steps(x, "0233");
        String[] ahead = {"00001", "0-100", "0-000"};
        for (int p = 0; p < 3; p++) {
            due("u" + p, x.step(1), p + 1);
            for (int q = 0; q < 3; q++) Check.duePlace("u" + p, x, q, ahead[q]);
        }
        Check.dueRow("who waits waits on", x, "2");
        due("nothing was found", x.count(2), 0);
        WaitPlaces y = Check.told("tl0u0u0;tl0i1;");
        Check.steps(y, "010");
        due("u of what it has handed on", y.step(0), 3);
        due("the heir keeps it", y.place(0, 1), 1);
    }

    private static void dies() {
        WaitPlaces none = Check.told("txi0i0;tl0;");
        Check.steps(none, "1");
        due("x ahead of others", none.step(0), 1);
        Check.dueThread("done", none, 0, "13-000");
        Check.duePlace("another's stays", none, 0, "01000");
        due("no more steps", none.step(0), STATE);
        WaitPlaces last = Check.told("tl0l1l2i0x;");
        Check.steps(last, "0000");
        due("x as the fifth", last.step(0), 5);
        for (int p = 0; p < 3; p++) Check.duePlace("all three", last, p, p == 0 ? "1-100" : "0-100");
        due("found by nobody", last.count(2), 0);
        WaitPlaces ranks = Check.told("tl0l1x;tl0;tl0;tl1;r2 1;");
        Check.steps(ranks, "001230");
        Check.duePlace("to the highest, not to the first", ranks, 0, "02001");
        Check.duePlace("to the only one", ranks, 1, "03000");
        Check.dueRow("one waits on", ranks, "1");
    }

    private static void inherits() {
        WaitPlaces x = Check.told("tl0l1l2x;tl0u0;tl1;tl2;");
        Check.steps(x, "000321");
        due("none yet", x.count(2), 0);
        Check.steps(x, "0");
        for (int p = 0; p < 3; p++) Check.duePlace("to its heir", x, p, "0" + (p + 1) + "000");
        due("three found one", x.count(2), 3);
        Check.dueRow("none waits", x, "");
        Check.steps(x, "1");
        Check.duePlace("free, and not dead", x, 0, "0-000");
        due("still three", x.count(2), 3);
        WaitPlaces y = Check.told("tl0x;tl0x;tl0x;tl0x;");
        Check.steps(y, "0123");
        for (int n = 0; n < 4; n++) {
            Check.steps(y, "" + n);
            due("found behind death " + n, y.count(2), Math.min(n + 1, 3));
            due("dead behind death " + n, y.place(0, 2), n == 3 ? 1 : 0);
        }
    }

    private static void goesOnBehind() {
        WaitPlaces x = Check.told("tw0 0i2;tb0 0i2;tl1i2;tl1k0 2u1;");
        Check.steps(x, "3011");
        Check.steps(x, "2");
        for (int t = 0; t < 3; t++) due("not behind it yet", x.thread(t, 0), 0);
        Check.steps(x, "33");
        for (int t = 0; t < 3; t++) Check.dueThread("behind its operation", x, t, "10-000");
        for (int t = 0; t < 3; t++) due("the next operation", x.step(t), 2);
        due("is done once each", x.place(2, 0), 3);
        WaitPlaces y = Check.told("tw0 0;tb0 0;tl1;tl1k0 2u1;");
        Check.steps(y, "3011233");
        for (int t = 0; t < 3; t++) Check.dueThread("its program is over", y, t, "13-000");
        WaitPlaces z = Check.told("tw0 0w0 0;tq0 1k0 1;");
        Check.steps(z, "01");
        Check.dueThread("woken by q", z, 0, "10-000");
        Check.steps(z, "0");
        Check.dueThread("asleep again", z, 0, "110000");
        Check.steps(z, "1");
        Check.dueThread("woken by k", z, 0, "23-000");
    }

    private static void doneAndOwns() {
        WaitPlaces x = Check.told("tl0l2;tl0;tl1x;");
        Check.steps(x, "00122");
        Check.dueThread("done", x, 0, "23-000");
        Check.duePlace("owned by one that is done", x, 0, "00001");
        Check.duePlace("owned by one that is done", x, 2, "00000");
        Check.duePlace("not owned by one that is dead", x, 1, "0-100");
        due("stuck now", x.worst(-1), 0);
        WaitPlaces y = Check.told("tl0u0;tl0;tl0;");
        Check.steps(y, "0120");
        Check.duePlace("handed on to one that is done then", y, 0, "01001");
        due("it is done", y.thread(1, 1), 3);
    }

    private static void lendsAlongChains() {
        WaitPlaces x = Check.told("tl0u0;tl1l0;tl2l1;tl2;r0 1;r3 3;");
        String[] steps = {"012", "1", "2", "3", "0"};
        String[] want = {"1003", "1003", "1003", "3333", "1333"};
        for (int n = 0; n < steps.length; n++) {
            Check.steps(x, steps[n]);
            StringBuilder lent = new StringBuilder();
            for (int t = 0; t < 4; t++) lent.append(x.thread(t, 4));
            Check.same("lent ranks behind " + steps[n], lent.toString(), want[n]);
        }
        for (int t = 0; t < 4; t++) due("rank of " + t, x.thread(t, 3), t == 0 ? 1 : t == 3 ? 3 : 0);

        WaitPlaces z = Check.told("tl2;tl2l1;tl1l0;tl0;r0 3;");
        Check.steps(z, "321012");
        for (int t = 0; t < 4; t++) due("the other way round to " + t, z.thread(t, 4), 3);

        WaitPlaces w = Check.told("tl0l1;tl0;tl1;tw0 0;r0 2;r1 1;r2 2;r3 3;");
        Check.steps(w, "00123");
        due("lower and equal ones, and a sleeper's", w.thread(0, 4), 2);
        WaitPlaces y = Check.told("tl0l1;tl0;tl1;r1 1;r2 3;");
        Check.steps(y, "0012");
        due("the greatest of several places", y.thread(0, 4), 3);
        due("done, and lent to", y.thread(0, 1), 3);
    }

    private static void undoesTheLatest() {
        String text = "tl0l1x;tl0b2 0;tw1 0;ti0;r1 2;";
        String order = "002101";
        WaitPlaces y = Check.told(text);
        String[] ahead = new String[order.length()];
        for (int n = 0; n < order.length(); n++) {
            ahead[n] = how(y);
            Check.steps(y, order.substring(n, n + 1));
        }
        WaitPlaces x = Check.told(text);
        Check.steps(x, order);
        due("refused: asleep", x.step(2), STATE);
        due("refused: done", x.step(0), STATE);
        due("refused: no such thread", x.step(4), BAD);
        for (int n = order.length() - 1; n >= 0; n--) {
            due("undo to " + n, x.undo(), n);
            Check.same("as ahead of step " + n, how(x), ahead[n]);
        }
        due("a step again", x.step(3), 1);
        due("undone", x.undo(), 0);
        Check.same("as at first", how(x), ahead[0]);
    }

    private static void undoesTwelve() {
        for (int steps = 11; steps <= 15; steps++) {
            WaitPlaces x = Check.told("ti0i0i0i0i0;ti1i1i1i1i1;ti2i2i2i2i2;");
            for (int n = 0; n < steps; n++) Check.steps(x, "" + n % 3);
            int known = Math.min(12, steps);
            due("may be undone behind " + steps, x.count(5), known);
            for (int n = known - 1; n >= 0; n--) due("undo to " + n + " behind " + steps, x.undo(), n);
            due("older ones are lost behind " + steps, x.undo(), STATE);
            int lost = steps - known;
            for (int t = 0; t < 3; t++) {
                due("steps of " + t + " left of " + steps, x.thread(t, 0), (lost + 2 - t) / 3);
                due("value of " + t + " left of " + steps, x.place(t, 0), (lost + 2 - t) / 3);
            }
        }
        WaitPlaces y = Check.told("ti0i0i0i0i0;ti1i1i1i1i1;ti2i2i2i2i2;");
        Check.steps(y, "00000111112");
        Check.steps(y, "22");
        for (int n = 0; n < 5; n++) y.undo();
        due("known behind 13 steps and 5 undone", y.count(5), 7);
        Check.steps(y, "22222");
        due("12 again", y.count(5), 12);
        for (int n = 11; n >= 0; n--) due("undo to " + n, y.undo(), n);
        due("no more", y.undo(), STATE);
        due("one step is left", y.thread(0, 0) * 100 + y.thread(1, 0) * 10 + y.thread(2, 0), 100);
    }

    private static void placeValue() {
        WaitPlaces x = Check.told("v0 3;v2 1;ti2;");
        int[] want = {3, 0, 1};
        for (int p = 0; p < 3; p++) due("value of " + p, x.place(p, 0), want[p]);
        Check.steps(x, "0");
        due("value of 2 then", x.place(2, 0), 2);
    }

    private static void placeOwner() {
        WaitPlaces x = Check.told("t;tl1;t;tl2;");
        for (int p = 0; p < 3; p++) due("owner of " + p + " at first", x.place(p, 1), NONE);
        Check.steps(x, "13");
        int[] want = {NONE, 1, 3};
        for (int p = 0; p < 3; p++) due("owner of " + p, x.place(p, 1), want[p]);
        Check.tell(x, "tl0;");
        Check.steps(x, "0");
        due("thread 0 is one, too", x.place(0, 1), 0);
    }

    private static void placeDead() {
        WaitPlaces x = Check.told("tl0l2x;tl2;");
        Check.steps(x, "000");
        int[] want = {1, 0, 1};
        for (int p = 0; p < 3; p++) due("dead " + p, x.place(p, 2), want[p]);
        Check.steps(x, "1");
        due("found", x.place(2, 2), 0);
        due("the other", x.place(0, 2), 1);
    }

    private static void placeAsleep() {
        WaitPlaces x = Check.told("tw2 0;tb2 0;tw2 0;tw2 0;");
        for (int n = 0; n < 4; n++) {
            due("asleep at 2", x.place(2, 3), n);
            due("asleep at 1", x.place(1, 3), 0);
            due("waiting for 2", x.place(2, 4), 0);
            Check.steps(x, n == 1 ? "11" : "" + n);
        }
        due("all four", x.place(2, 3), 4);
    }

    private static void placeWaiting() {
        WaitPlaces x = Check.told("tl2;tl2;tl2;tl2;");
        for (int n = 0; n < 4; n++) {
            due("waiting for 2", x.place(2, 4), Math.max(0, n - 1));
            due("waiting for 1", x.place(1, 4), 0);
            due("asleep at 2", x.place(2, 3), 0);
            Check.steps(x, "" + n);
        }
        due("all but the owner", x.place(2, 4), 3);
    }

    private static void noPlace() {
        WaitPlaces x = Check.told("tl0;tl0;tw0 0;");
        Check.steps(x, "012");
        int[] places = {-1, 3, 4, -3, 256, LOW, LOW + 1, HIGH};
        int[] whats = {-1, 5, 6, -5, 256, LOW, LOW + 1, HIGH};
        for (int what = 0; what < 5; what++) {
            for (int p : places) due("place(" + p + ", " + what + ")", x.place(p, what), BAD);
        }
        for (int p = 0; p < 3; p++) {
            for (int what : whats) due("place(" + p + ", " + what + ")", x.place(p, what), BAD);
        }
        due("place(-1, -1)", x.place(-1, -1), BAD);
        due("place(3, 5)", x.place(3, 5), BAD);
        due("place(2, 4)", x.place(2, 4), 0);
    }

    private static void threadBehind() {
        WaitPlaces x = Check.told("ti0i0i0i0i0;tl0b1 1xi0;t;tb1 0;");
        for (int n = 0; n < 5; n++) {
            due("ahead of step " + n, x.thread(0, 0), n);
            Check.steps(x, "0");
        }
        due("all five", x.thread(0, 0), 5);
        for (int n = 0; n < 3; n++) {
            due("ahead of another step " + n, x.thread(1, 0), n);
            Check.steps(x, "1");
        }
        due("x is behind it, what follows is not", x.thread(1, 0), 3);
        due("none", x.thread(2, 0), 0);
        Check.steps(x, "3");
        due("between", x.thread(3, 0), 0);
        Check.steps(x, "3");
        due("asleep", x.thread(3, 0), 0);
    }

    private static void threadHow() {
        WaitPlaces x = Check.told("t;tl0;tl0;tb0 0;");
        Check.steps(x, "123");
        int[] want = {3, 3, 2, 0};
        for (int t = 0; t < 4; t++) due("thread " + t, x.thread(t, 1), want[t]);
        Check.steps(x, "3");
        due("asleep", x.thread(3, 1), 1);
        Check.tell(x, "txi0;");
        due("awake", x.thread(0, 1), 0);
        Check.steps(x, "0");
        due("done by x", x.thread(0, 1), 3);
    }

    private static void threadWhere() {
        WaitPlaces x = Check.told("tl2;tw0 0;tl2;tb1 0;");
        for (int t = 0; t < 4; t++) due("awake " + t, x.thread(t, 2), NONE);
        Check.steps(x, "0123");
        int[] want = {NONE, 0, 2, NONE};
        for (int t = 0; t < 4; t++) due("place of " + t, x.thread(t, 2), want[t]);
        Check.steps(x, "3");
        due("asleep in the second step", x.thread(3, 2), 1);
        Check.tell(x, "tw0 0;tw0 0i0;tq0 2k2 1;");
        Check.steps(x, "012");
        due("moved", x.thread(1, 2), 2);
        due("woken and done", x.thread(0, 2), NONE);
        Check.steps(x, "2");
        due("woken", x.thread(1, 2), NONE);
    }

    private static void threadRanks() {
        WaitPlaces x = Check.told("tl0;tl0;t;t;r1 3;r2 2;");
        Check.steps(x, "01");
        int[] rank = {0, 3, 2, 0};
        int[] lent = {3, 3, 2, 0};
        for (int t = 0; t < 4; t++) due("rank of " + t, x.thread(t, 3), rank[t]);
        for (int t = 0; t < 4; t++) due("lent rank of " + t, x.thread(t, 4), lent[t]);
    }

    private static void threadBetween() {
        WaitPlaces x = Check.told("tb0 0b0 0;tb0 1;tk0 1;tw0 0;");
        for (int t = 0; t < 4; t++) due("at first " + t, x.thread(t, 5), 0);
        Check.steps(x, "013");
        int[] want = {1, 0, 0, 0};
        for (int t = 0; t < 4; t++) due("behind a step " + t, x.thread(t, 5), want[t]);
        Check.steps(x, "0");
        due("behind both", x.thread(0, 5), 0);
        Check.tell(x, "tb0 0b0 0;tk0 1;");
        Check.steps(x, "001");
        due("woken", x.thread(0, 5), 0);
        Check.steps(x, "0");
        due("between those of the next", x.thread(0, 5), 1);
    }

    private static void noThread() {
        for (int n = 0; n <= 4; n++) {
            WaitPlaces x = Check.told("ti0;".repeat(n));
            int[] threads = {-1, n, n + 1, 4, 5, 256, LOW, LOW + 1, HIGH};
            for (int t : threads) {
                for (int what = 0; what < 6; what++) due("thread(" + t + ", " + what + ") of " + n, x.thread(t, what), BAD);
            }
            int[] whats = {-1, 6, 7, 256, LOW, LOW + 1, HIGH};
            for (int t = 0; t < n; t++) {
                for (int what : whats) due("thread(" + t + ", " + what + ") of " + n, x.thread(t, what), BAD);
            }
            due("thread(-1, -1) of " + n, x.thread(-1, -1), BAD);
            due("thread(" + n + ", 6)", x.thread(n, 6), BAD);
        }
    }

    private static void rowInOrder() {
        WaitPlaces x = Check.told("tw0 0;tw1 0;tw2 0;tw0 0;");
        Check.steps(x, "2031");
        int[] want = {2, 0, 3, 1};
        for (int k = 0; k < 4; k++) due("row(" + k + ")", x.row(k), want[k]);
    }

    private static void behindTheRow() {
        WaitPlaces x = Check.told("tw0 0;tw0 0;tw0 0;tw0 0;");
        for (int n = 0; n <= 4; n++) {
            for (int k = 0; k < n; k++) due("row(" + k + ") of " + n, x.row(k), k);
            for (int k = n; k < 6; k++) due("row(" + k + ") of " + n, x.row(k), NONE);
            due("row(HIGH) of " + n, x.row(HIGH), NONE);
            if (n < 4) Check.steps(x, "" + n);
        }
        due("row of a new object", new WaitPlaces().row(0), NONE);
    }

    private static void noRow() {
        WaitPlaces x = Check.told("tw0 0;tw0 0;tw0 0;tw0 0;");
        int[] numbers = {-1, -2, -9, LOW, LOW + 1};
        for (int k : numbers) due("row(" + k + ") of an empty one", x.row(k), BAD);
        Check.steps(x, "0123");
        for (int k : numbers) due("row(" + k + ") of a full one", x.row(k), BAD);
    }

    private static void stepAnswers() {
        WaitPlaces x = Check.told("tl0b0 0w0 0i1x;tl0w0 1;tk0 3k0 3;");
        due("l of a free one", x.step(0), 1);
        due("l that waits", x.step(1), 0);
        due("b that looks", x.step(0), 1);
        due("b that sleeps", x.step(0), 1);
        due("k", x.step(2), 1);
        due("w that sleeps", x.step(0), 2);
        due("k, the last", x.step(2), 2);
        due("i", x.step(0), 4);
        due("x, the fifth", x.step(0), 5);
        due("w that goes on", x.step(1), 2);
    }

    private static void stepOfNoThread() {
        for (int n = 0; n <= 4; n++) {
            WaitPlaces x = Check.told("ti0;".repeat(n));
            int[] threads = {-1, -2, n, n + 1, 4, 5, 256, LOW, LOW + 1, HIGH};
            for (int t : threads) due("step(" + t + ") of " + n, x.step(t), BAD);
            due("nothing was done", x.place(0, 0) + x.count(5), 0);
        }
    }

    private static void stepRefused() {
        WaitPlaces x = Check.told("tw0 0;tl0;tl0;t;");
        due("an empty program", x.step(3), STATE);
        Check.steps(x, "012");
        String ahead = how(x);
        due("asleep", x.step(0), STATE);
        due("done", x.step(1), STATE);
        due("waits", x.step(2), STATE);
        due("done from the first", x.step(3), STATE);
        Check.same("nothing changes", how(x), ahead);
        due("refused ones are not undone", x.count(5), 3);
        Check.tell(x, "txi0;");
        Check.steps(x, "0");
        due("done by x", x.step(0), STATE);
        due("nothing was done", x.place(0, 0), 0);
    }

    private static void undoAnswers() {
        WaitPlaces x = Check.told("ti0i0i0i0i0;ti0i0i0i0i0;ti0i0i0i0i0;");
        Check.steps(x, "0");
        due("of one", x.undo(), 0);
        Check.steps(x, "01");
        due("of two", x.undo(), 1);
        due("of the other", x.undo(), 0);
        Check.steps(x, "000001111122");
        due("of twelve", x.undo(), 11);
        Check.steps(x, "22");
        due("of thirteen", x.undo(), 11);
    }

    private static void nothingToUndo() {
        WaitPlaces x = new WaitPlaces();
        due("new", x.undo(), STATE);
        Check.tell(x, "ti0;");
        due("told", x.undo(), STATE);
        Check.steps(x, "0");
        due("one", x.undo(), 0);
        due("once more", x.undo(), STATE);
        due("nothing changes", x.place(0, 0) + x.thread(0, 0), 0);
        Check.steps(x, "0");
        x.keep(0);
        x.back(0);
        due("behind back()", x.undo(), STATE);
        due("nothing changes behind back()", x.place(0, 0), 1);
        x.threads();
        due("behind threads()", x.undo(), STATE);
    }
}
