/** Threads that wait on places: told by a text, stepped, undone, and followed through every interleaving. */
public final class WaitPlaces {
    public static final int BAD = -1, STATE = -2, FULL = -3, NONE = -9;

    private static final int PLACES = 3;
    private static final int THREADS = 4;
    private static final int OPERATIONS = 5;
    /** The greatest VALUE, RANK and N alike. */
    private static final int TOP = 3;
    private static final int LETTERS = 120;
    private static final int LAST_LETTER = 255;
    private static final int UNDOABLE = 12;
    private static final int SIGHTS = 6;
    private static final int IMAGES = 2;
    private static final int STATES = 3000;

    private static final int AWAKE = 0, ASLEEP = 1, WAITS = 2, DONE = 3;
    private static final int NOBODY = 4, NOWHERE = 3;

    private final int[] text = new int[LETTERS];
    private int letters = 0;
    private Told told = new Told();
    private Told draft = new Told();
    private final Reader reader = new Reader();
    private final Scene now = new Scene();
    private final Past past = new Past();
    private final Shelf images = new Shelf(IMAGES);
    private final Sights sights = new Sights();
    private final Search search = new Search();

    /** The fields start as the document tells: no THREADS, nothing told. */
    public WaitPlaces() {
    }

    // ---- what is told

    public int type(int letter) {
        if (letter < 0 || letter > LAST_LETTER) return BAD;
        if (letters >= LETTERS) return FULL;
        text[letters] = letter;
        letters++;
        return letters;
    }

    public int clear() {
        int had = letters;
        letters = 0;
        return had;
    }

    public int threads() {
        int items = reader.read(text, letters, draft);
        if (items < 0) return items;
        Told older = told;
        told = draft;
        draft = older;
        letters = 0;
        now.begin(told);
        past.empty();
        images.empty();
        sights.size = 0;
        search.outdated = true;
        return items;
    }

    // ---- how things are

    public int place(int p, int what) {
        if (!isPlace(p)) return BAD;
        switch (what) {
            case 0: return now.value[p];
            case 1: return now.owner[p] == NOBODY ? NONE : now.owner[p];
            case 2: return now.dead[p];
            case 3: return now.howMany(ASLEEP, p);
            case 4: return now.howMany(WAITS, p);
            default: return BAD;
        }
    }

    public int thread(int t, int what) {
        if (!isTold(t)) return BAD;
        switch (what) {
            case 0: return now.behind[t];
            case 1: return now.how[t];
            case 2: return now.where[t] == NOWHERE ? NONE : now.where[t];
            case 3: return told.rank[t];
            case 4: return now.lentRank(told, t);
            case 5: return now.between[t];
            default: return BAD;
        }
    }

    public int row(int k) {
        if (k < 0) return BAD;
        return k < THREADS && k < now.queued ? now.queue[k] : NONE;
    }

    // ---- what is done

    public int step(int t) {
        if (!isTold(t)) return BAD;
        if (now.how[t] != AWAKE) return STATE;
        past.push(now);
        now.perform(told, t);
        search.outdated = true;
        return now.behind[t];
    }

    public int undo() {
        if (past.size <= 0) return STATE;
        past.pop(now);
        search.outdated = true;
        return past.size;
    }

    // ---- every interleaving

    public int all(int what) {
        if (what < 0 || what > 3) return BAD;
        if (!search.knows(told, now)) return FULL;
        switch (what) {
            case 0: return search.size;
            case 1: return search.ends;
            case 2: return search.stuck;
            default: return search.stepsTo(search.firstEnd);
        }
    }

    public int worst(int k) {
        if (k < -1) return BAD;
        if (!search.knows(told, now)) return FULL;
        if (search.firstStuck < 0) return NONE;
        return k == -1 ? search.stepsTo(search.firstStuck) : search.stepper(search.firstStuck, k);
    }

    public int can(int p, int what) {
        if (!isPlace(p) || what < 0 || what > 1) return BAD;
        if (!search.knows(told, now)) return FULL;
        return what == 0 ? search.finals[p] : search.owners[p];
    }

    public int slept() {
        return search.knows(told, now) ? search.sleepers : FULL;
    }

    // ---- which end

    public int sees(int p, int v) {
        if (!isPlace(p) || v < 0 || v > TOP) return BAD;
        if (sights.size >= SIGHTS) return FULL;
        sights.add(p, v);
        return sights.size;
    }

    public int forget() {
        int was = sights.size;
        sights.size = 0;
        return was;
    }

    public int unseen(int what) {
        if (what < 0 || what > 1) return BAD;
        if (!search.knows(told, now)) return FULL;
        return search.endsThatFit(sights, what == 1);
    }

    // ---- images

    public int keep(int image) {
        if (image < 0 || image >= IMAGES) return BAD;
        images.put(image, now);
        return told.size;
    }

    public int back(int image) {
        if (image < 0 || image >= IMAGES) return BAD;
        if (!images.holds(image)) return STATE;
        images.fetch(image, now);
        past.empty();
        search.outdated = true;
        return told.size;
    }

    public int count(int what) {
        switch (what) {
            case 0: return told.size;
            case 1: return now.queued;
            case 2: return now.found;
            case 3: return sights.size;
            case 4: return letters;
            case 5: return past.size;
            default: return BAD;
        }
    }

    private boolean isTold(int t) {
        return isThread(t) && t < told.size;
    }

    private static boolean isPlace(int p) {
        return p >= 0 && p < PLACES;
    }

    private static boolean isThread(int t) {
        return t >= 0 && t < THREADS;
    }

    /** What a text tells: VALUES, programs and RANKS. */
    private static final class Told {
        final int[] value = new int[PLACES];
        final int[] rank = new int[THREADS];
        final int[] length = new int[THREADS];
        private final int[] letter = new int[THREADS * OPERATIONS];
        private final int[] first = new int[THREADS * OPERATIONS];
        private final int[] second = new int[THREADS * OPERATIONS];
        int size = 0;

        void empty() {
            for (int p = 0; p < PLACES; p++) value[p] = 0;
            for (int t = 0; t < THREADS; t++) {
                rank[t] = 0;
                length[t] = 0;
            }
            size = 0;
        }

        void addOperation(int t, int name, int place, int number) {
            if (!isThread(t) || length[t] >= OPERATIONS) return;
            int i = t * OPERATIONS + length[t];
            letter[i] = name;
            first[i] = place;
            second[i] = number;
            length[t]++;
        }

        int letterOf(int t, int n) {
            return isOperation(t, n) ? letter[t * OPERATIONS + n] : 0;
        }

        int placeOf(int t, int n) {
            return isOperation(t, n) ? first[t * OPERATIONS + n] : NOWHERE;
        }

        int numberOf(int t, int n) {
            return isOperation(t, n) ? second[t * OPERATIONS + n] : 0;
        }

        private boolean isOperation(int t, int n) {
            return isThread(t) && n >= 0 && n < OPERATIONS && n < length[t];
        }
    }

    /** Reads a text: first its tokens, then what they tell. */
    private static final class Reader {
        private static final int BLANK = 32;
        private static final int FAULT_BASE = -10;
        private static final String TOKEN_LETTERS = "vtrsiwbkqlux;";
        private static final String OPERATION_LETTERS = "siwbkqlux";
        private static final String WITH_TWO_NUMBERS = "swbkq";
        /** Kinds of tokens: a NUMBER is its own kind, a letter too (all above 9); these are the rest. */
        private static final int OVER = -1, ODD = -2, GAP = -3;
        /** No number that may stand there. */
        private static final int MISSING = -1;

        private final int[] kinds = new int[LETTERS + 1];
        private final int[] starts = new int[LETTERS + 1];
        private int tokens = 0;
        private int at = 0;

        /** How many ITEMS there are; FAULT_BASE less FAULT, and what is in the draft is then of no use. */
        int read(int[] text, int size, Told draft) {
            split(text, Math.min(size, Math.min(text.length, LETTERS)));
            draft.empty();
            at = 0;
            int items = 0;
            while (items <= LETTERS && token() != OVER) {
                if (!takeItem(draft)) return FAULT_BASE - start();
                items++;
            }
            return items;
        }

        private void split(int[] text, int size) {
            tokens = 0;
            int i = 0;
            while (i < size) {
                int first = i;
                int kind = kindOf(text[i]);
                i++;
                if (kind >= 0 && kind <= 9) {
                    while (i < size && text[i] >= '0' && text[i] <= '9') {
                        kind = ODD;
                        i++;
                    }
                }
                if (kind != GAP) addToken(kind, first);
            }
            addToken(OVER, size);
        }

        private static int kindOf(int letter) {
            if (letter == BLANK) return GAP;
            if (letter >= '0' && letter <= '9') return letter - '0';
            return TOKEN_LETTERS.indexOf((char) letter) >= 0 ? letter : ODD;
        }

        private void addToken(int kind, int first) {
            if (tokens < 0 || tokens > LETTERS) return;
            kinds[tokens] = kind;
            starts[tokens] = first;
            tokens++;
        }

        private int token() {
            return at >= 0 && at <= LETTERS ? kinds[at] : OVER;
        }

        private int start() {
            return at >= 0 && at <= LETTERS ? starts[at] : LETTERS;
        }

        /** Where this and what it calls answer no, the token at hand is the one that can't stand there. */
        private boolean takeItem(Told into) {
            switch (token()) {
                case 'v': return takeValue(into);
                case 't': return takeThread(into);
                case 'r': return takeRank(into);
                default: return false;
            }
        }

        private boolean takeValue(Told into) {
            at++;
            int p = takeNumber(0, PLACES - 1);
            if (!isPlace(p)) return false;
            int v = takeNumber(0, TOP);
            if (v == MISSING) return false;
            into.value[p] = v;
            return takeEnd();
        }

        private boolean takeRank(Told into) {
            at++;
            int t = takeNumber(0, into.size - 1);
            if (!isThread(t)) return false;
            int rank = takeNumber(0, TOP);
            if (rank == MISSING) return false;
            into.rank[t] = rank;
            return takeEnd();
        }

        private boolean takeThread(Told into) {
            if (into.size >= THREADS) return false;
            at++;
            into.size++;
            for (int n = 0; n < OPERATIONS && token() != ';'; n++) {
                if (!takeOperation(into)) return false;
            }
            return takeEnd();
        }

        private boolean takeOperation(Told into) {
            int name = token();
            if (name <= 0 || OPERATION_LETTERS.indexOf((char) name) < 0) return false;
            at++;
            int p = NOWHERE;
            int second = 0;
            if (name != 'x') {
                p = takeNumber(0, PLACES - 1);
                if (p == MISSING) return false;
            }
            if (WITH_TWO_NUMBERS.indexOf((char) name) >= 0) {
                if (name == 'q' && token() == p) return false;
                second = takeNumber(name == 'k' ? 1 : 0, name == 'q' ? PLACES - 1 : TOP);
                if (second == MISSING) return false;
            }
            into.addOperation(into.size - 1, name, p, second);
            return true;
        }

        private int takeNumber(int low, int high) {
            int number = token();
            if (number < low || number > high) return MISSING;
            at++;
            return number;
        }

        private boolean takeEnd() {
            if (token() != ';') return false;
            at++;
            return true;
        }
    }

    /** How PLACES and THREADS are at one time; THREADS that were not told count as DONE. */
    private static final class Scene {
        final int[] value = new int[PLACES];
        final int[] owner = {NOBODY, NOBODY, NOBODY};
        final int[] dead = new int[PLACES];
        final int[] behind = new int[THREADS];
        final int[] how = {DONE, DONE, DONE, DONE};
        final int[] where = {NOWHERE, NOWHERE, NOWHERE, NOWHERE};
        final int[] between = new int[THREADS];
        final int[] queue = new int[THREADS];
        private final int[] lent = new int[THREADS];
        int queued = 0;
        int found = 0;

        void begin(Told told) {
            for (int p = 0; p < PLACES; p++) {
                value[p] = told.value[p];
                owner[p] = NOBODY;
                dead[p] = 0;
            }
            for (int t = 0; t < THREADS; t++) {
                behind[t] = 0;
                how[t] = told.length[t] > 0 ? AWAKE : DONE;
                where[t] = NOWHERE;
                between[t] = 0;
            }
            queued = 0;
            found = 0;
        }

        /** All that tells STATES apart, in 62 bits: equal scenes have equal bits. */
        long packed() {
            long bits = 0;
            for (int p = 0; p < PLACES; p++) {
                bits = bits << 2 | value[p];
                bits = bits << 3 | owner[p];
                bits = bits << 1 | dead[p];
            }
            for (int t = 0; t < THREADS; t++) {
                bits = bits << 3 | behind[t];
                bits = bits << 2 | how[t];
                bits = bits << 2 | where[t];
                bits = bits << 1 | between[t];
                bits = bits << 3 | (t < queued ? queue[t] : NOBODY);
            }
            return bits;
        }

        void unpack(long packed) {
            long bits = packed;
            queued = 0;
            for (int t = THREADS - 1; t >= 0; t--) {
                queue[t] = (int) bits & 7;
                if (queue[t] != NOBODY) queued++;
                between[t] = (int) (bits >> 3) & 1;
                where[t] = (int) (bits >> 4) & 3;
                how[t] = (int) (bits >> 6) & 3;
                behind[t] = (int) (bits >> 8) & 7;
                bits >>= 11;
            }
            for (int p = PLACES - 1; p >= 0; p--) {
                dead[p] = (int) bits & 1;
                owner[p] = (int) (bits >> 1) & 7;
                value[p] = (int) (bits >> 4) & 3;
                bits >>= 6;
            }
        }

        boolean isEnd() {
            for (int t = 0; t < THREADS; t++) {
                if (how[t] == AWAKE) return false;
            }
            return true;
        }

        boolean isStuck() {
            boolean allDone = true;
            for (int t = 0; t < THREADS; t++) {
                if (how[t] != DONE) allDone = false;
            }
            return isEnd() && !allDone;
        }

        int howMany(int kind, int p) {
            int n = 0;
            for (int t = 0; t < THREADS; t++) {
                if (is(t, kind, p)) n++;
            }
            return n;
        }

        int lentRank(Told told, int t) {
            lendRanks(told);
            return isThread(t) ? lent[t] : 0;
        }

        /** A chain has fewer links than there are THREADS: as many rounds carry a RANK to its end. */
        private void lendRanks(Told told) {
            for (int t = 0; t < THREADS; t++) lent[t] = told.rank[t];
            for (int round = 1; round < THREADS; round++) {
                for (int t = 0; t < THREADS; t++) {
                    int p = where[t];
                    if (how[t] == WAITS && isPlace(p) && isThread(owner[p])) {
                        lent[owner[p]] = Math.max(lent[owner[p]], lent[t]);
                    }
                }
            }
        }

        /** The THREAD that owns what this one WAITS for. */
        private int awaited(int t) {
            if (!isThread(t) || how[t] != WAITS || !isPlace(where[t])) return NOBODY;
            return owner[where[t]];
        }

        private boolean is(int t, int kind, int p) {
            return isThread(t) && how[t] == kind && where[t] == p;
        }

        /** A STEP of a THREAD that is AWAKE. */
        void perform(Told told, int t) {
            if (!isThread(t) || how[t] != AWAKE) return;
            int p = told.placeOf(t, behind[t]);
            int number = told.numberOf(t, behind[t]);
            int letter = told.letterOf(t, behind[t]);
            if (letter == 'x') {
                die(told, t);
                return;
            }
            if (!isPlace(p)) return;
            switch (letter) {
                case 's': change(told, t, p, number); break;
                case 'i': change(told, t, p, value[p] < TOP ? value[p] + 1 : 0); break;
                case 'w': waitAtOnce(told, t, p, number); break;
                case 'b': waitInTwo(told, t, p, number); break;
                case 'k': wake(told, t, p, number); break;
                case 'q': move(told, t, p, number); break;
                case 'l': lock(told, t, p); break;
                case 'u': unlock(told, t, p); break;
                default: break;
            }
        }

        private void change(Told told, int t, int p, int v) {
            value[p] = v;
            goOn(told, t);
        }

        private void waitAtOnce(Told told, int t, int p, int v) {
            if (value[p] == v) join(t, ASLEEP, p);
            else goOn(told, t);
        }

        private void waitInTwo(Told told, int t, int p, int v) {
            if (between[t] == 1) join(t, ASLEEP, p);
            else if (value[p] == v) between[t] = 1;
            else goOn(told, t);
        }

        private void wake(Told told, int t, int p, int most) {
            for (int n = 0; n < TOP && n < most; n++) release(told, firstAsleep(p));
            goOn(told, t);
        }

        private void move(Told told, int t, int p, int q) {
            release(told, firstAsleep(p));
            for (int other = 0; other < THREADS; other++) {
                if (is(other, ASLEEP, p)) where[other] = q;
            }
            goOn(told, t);
        }

        private void lock(Told told, int t, int p) {
            if (owner[p] == NOBODY) {
                take(t, p);
                goOn(told, t);
            } else if (leadsTo(owner[p], t)) {
                goOn(told, t);
            } else {
                join(t, WAITS, p);
            }
        }

        /** Whether a chain of owners and what they WAIT for comes to t. */
        private boolean leadsTo(int from, int t) {
            int o = from;
            for (int n = 0; n < THREADS && isThread(o); n++) {
                if (o == t) return true;
                o = awaited(o);
            }
            return false;
        }

        private void unlock(Told told, int t, int p) {
            if (owner[p] == t) handOn(told, p);
            goOn(told, t);
        }

        private void die(Told told, int t) {
            goOn(told, t);
            how[t] = DONE;
            for (int p = 0; p < PLACES; p++) {
                if (owner[p] == t) {
                    dead[p] = 1;
                    handOn(told, p);
                }
            }
        }

        /** To the one of highest LENT RANK that WAITS, of several the first of THE ROW; else to nobody. */
        private void handOn(Told told, int p) {
            lendRanks(told);
            int heir = NOBODY;
            for (int k = 0; k < THREADS && k < queued; k++) {
                int t = queue[k];
                if (is(t, WAITS, p) && (!isThread(heir) || lent[t] > lent[heir])) heir = t;
            }
            owner[p] = NOBODY;
            if (!isThread(heir)) return;
            take(heir, p);
            release(told, heir);
        }

        private void take(int t, int p) {
            owner[p] = t;
            if (dead[p] == 1) found++;
            dead[p] = 0;
        }

        private int firstAsleep(int p) {
            for (int k = 0; k < THREADS && k < queued; k++) {
                if (is(queue[k], ASLEEP, p)) return queue[k];
            }
            return NOBODY;
        }

        private void join(int t, int kind, int p) {
            between[t] = 0;
            how[t] = kind;
            where[t] = p;
            if (queued >= 0 && queued < THREADS) {
                queue[queued] = t;
                queued++;
            }
        }

        /** Out of THE ROW, and on behind the operation that led there. */
        private void release(Told told, int t) {
            if (!isThread(t)) return;
            int left = 0;
            for (int k = 0; k < THREADS && k < queued; k++) {
                if (queue[k] != t) {
                    queue[left] = queue[k];
                    left++;
                }
            }
            queued = left;
            where[t] = NOWHERE;
            goOn(told, t);
        }

        private void goOn(Told told, int t) {
            behind[t]++;
            how[t] = behind[t] < told.length[t] ? AWAKE : DONE;
        }
    }

    /** Scenes put away under numbers. */
    private static final class Shelf {
        private final long[] bits;
        private final int[] found;
        private final boolean[] kept;

        Shelf(int howMany) {
            int room = Math.max(0, howMany);
            bits = new long[room];
            found = new int[room];
            kept = new boolean[room];
        }

        void empty() {
            for (int i = 0; i < kept.length; i++) kept[i] = false;
        }

        boolean holds(int i) {
            return i >= 0 && i < kept.length && kept[i];
        }

        void put(int i, Scene scene) {
            if (i < 0 || i >= kept.length || i >= bits.length || i >= found.length) return;
            bits[i] = scene.packed();
            found[i] = scene.found;
            kept[i] = true;
        }

        void fetch(int i, Scene scene) {
            if (!holds(i) || i >= bits.length || i >= found.length) return;
            scene.unpack(bits[i]);
            scene.found = found[i];
        }
    }

    /** The scenes ahead of the latest steps; the oldest gives way to a new one. */
    private static final class Past {
        private final Shelf scenes = new Shelf(UNDOABLE);
        private int next = 0;
        int size = 0;

        void empty() {
            size = 0;
        }

        void push(Scene scene) {
            scenes.put(next, scene);
            next = next + 1 < UNDOABLE ? next + 1 : 0;
            if (size < UNDOABLE) size++;
        }

        void pop(Scene scene) {
            if (size <= 0) return;
            next = next > 0 ? next - 1 : UNDOABLE - 1;
            size--;
            scenes.fetch(next, scene);
        }
    }

    /** VALUES that were told of the END it came to. */
    private static final class Sights {
        private final int[] at = new int[SIGHTS];
        private final int[] value = new int[SIGHTS];
        int size = 0;

        void add(int p, int v) {
            if (size < 0 || size >= SIGHTS) return;
            at[size] = p;
            value[size] = v;
            size++;
        }

        boolean fit(Scene end) {
            for (int i = 0; i < SIGHTS && i < size; i++) {
                int p = at[i];
                if (!isPlace(p) || end.value[p] != value[i]) return false;
            }
            return true;
        }
    }

    /**
     * All STATES from one on, breadth first, THREADS in order: so a STATE's first way is its shortest,
     * and of those the first, THREAD by THREAD; and STATES stand in the order of their ways.
     */
    private static final class Search {
        /** Two to the SLOT_BITS, well above STATES, so that a free slot is near. */
        private static final int SLOTS = 8192;
        private static final int SLOT_BITS = 13;
        private static final long SPREAD = 0x9E3779B97F4A7C15L;

        private final long[] states = new long[STATES];
        /** For each STATE the number of the one ahead of it times THREADS, and the THREAD that stepped. */
        private final int[] came = new int[STATES];
        /** Numbers of STATES, one more than they are: 0 is a free slot. */
        private final int[] slots = new int[SLOTS];
        private final Scene scene = new Scene();
        private final Scene following = new Scene();
        final int[] finals = new int[PLACES];
        final int[] owners = new int[PLACES];
        boolean outdated = true;
        boolean full = false;
        int size = 0;
        int ends = 0;
        int stuck = 0;
        int firstEnd = -1;
        int firstStuck = -1;
        int sleepers = 0;

        /** Finds all STATES from the start on, if those it has are outdated; no, if they are too many. */
        boolean knows(Told told, Scene start) {
            if (!outdated) return !full;
            empty();
            add(start.packed(), 0);
            for (int i = 0; i < STATES && i < size && !full; i++) {
                scene.unpack(states[i]);
                weigh(i);
                for (int t = 0; t < THREADS; t++) {
                    if (scene.how[t] == AWAKE) {
                        following.unpack(states[i]);
                        following.perform(told, t);
                        add(following.packed(), i * THREADS + t);
                    }
                }
            }
            outdated = false;
            return !full;
        }

        private void empty() {
            for (int i = 0; i < SLOTS; i++) slots[i] = 0;
            for (int p = 0; p < PLACES; p++) {
                finals[p] = 0;
                owners[p] = 0;
            }
            full = false;
            size = 0;
            ends = 0;
            stuck = 0;
            firstEnd = -1;
            firstStuck = -1;
            sleepers = 0;
        }

        private void add(long bits, int from) {
            int home = (int) ((bits * SPREAD) >>> (64 - SLOT_BITS));
            for (int n = 0; n < SLOTS; n++) {
                int slot = (home + n) & (SLOTS - 1);
                int held = slots[slot] - 1;
                if (!isState(held)) {
                    append(bits, from, slot);
                    return;
                }
                if (states[held] == bits) return;
            }
        }

        private void append(long bits, int from, int slot) {
            if (size < 0 || size >= STATES || slot < 0 || slot >= SLOTS) {
                full = true;
                return;
            }
            states[size] = bits;
            came[size] = from;
            size++;
            slots[slot] = size;
        }

        private boolean isState(int i) {
            return i >= 0 && i < STATES && i < size;
        }

        private void weigh(int i) {
            for (int p = 0; p < PLACES; p++) {
                if (isThread(scene.owner[p])) owners[p] |= 1 << scene.owner[p];
            }
            if (scene.isEnd()) weighEnd(i);
            if (scene.isStuck()) weighStuck(i);
        }

        private void weighEnd(int i) {
            if (ends == 0) firstEnd = i;
            ends++;
            for (int p = 0; p < PLACES; p++) finals[p] |= 1 << scene.value[p];
        }

        private void weighStuck(int i) {
            if (stuck == 0) firstStuck = i;
            stuck++;
            for (int t = 0; t < THREADS; t++) {
                if (scene.how[t] != DONE) sleepers |= 1 << t;
            }
        }

        int stepsTo(int state) {
            int steps = 0;
            int i = state;
            while (steps < STATES && i > 0 && isState(i)) {
                i = came[i] / THREADS;
                steps++;
            }
            return steps;
        }

        /** The k-th THREAD that steps on the way to a STATE. */
        int stepper(int state, int k) {
            int later = stepsTo(state) - 1 - k;
            if (k < 0 || later < 0) return NONE;
            int i = state;
            for (int n = 0; n < later && isState(i); n++) i = came[i] / THREADS;
            return isState(i) ? came[i] % THREADS : NONE;
        }

        int endsThatFit(Sights sights, boolean onlyStuck) {
            int n = 0;
            for (int i = 0; i < STATES && i < size; i++) {
                scene.unpack(states[i]);
                boolean counts = onlyStuck ? scene.isStuck() : scene.isEnd();
                if (counts && sights.fit(scene)) n++;
            }
            return n;
        }
    }
}
