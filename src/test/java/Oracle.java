import java.util.ArrayList;
import java.util.Arrays;
import java.util.List;
import java.util.Map;
import java.util.TreeMap;
import java.util.TreeSet;

/** The document once more, written the slow way and without a look at WaitPlaces, to compare answers with. */
final class Oracle {
    private static final int LIMIT = 3000;

    private record Op(char letter, int place, int second) {
    }

    private static final class Doer {
        int behind = 0;
        char how = 'A';
        int where = -1;
        boolean looked = false;
    }

    private static final class World {
        int[] values = new int[3];
        Integer[] owners = new Integer[3];
        boolean[] dead = new boolean[3];
        List<Doer> doers = new ArrayList<>();
        List<Integer> row = new ArrayList<>();
        int found = 0;

        World copy() {
            World other = new World();
            other.values = values.clone();
            other.owners = owners.clone();
            other.dead = dead.clone();
            for (Doer d : doers) {
                Doer e = new Doer();
                e.behind = d.behind;
                e.how = d.how;
                e.where = d.where;
                e.looked = d.looked;
                other.doers.add(e);
            }
            other.row.addAll(row);
            other.found = found;
            return other;
        }

        String key() {
            StringBuilder all = new StringBuilder();
            all.append(Arrays.toString(values)).append(Arrays.toString(owners)).append(Arrays.toString(dead)).append(row);
            for (Doer d : doers) all.append('/').append(d.behind).append(d.how).append(d.where).append(d.looked);
            return all.toString();
        }

        boolean over() {
            return doers.stream().noneMatch(d -> d.how == 'A');
        }

        boolean stuck() {
            return over() && doers.stream().anyMatch(d -> d.how != 'D');
        }
    }

    private static final class Fault extends Exception {
        private static final long serialVersionUID = 1;
        final int at;

        Fault(int at) {
            this.at = at;
        }
    }

    private String text = "";
    private List<List<Op>> programs = new ArrayList<>();
    private int[] ranks = new int[4];
    private World world = new World();
    private final List<World> past = new ArrayList<>();
    private final World[] images = new World[2];
    private final List<int[]> seen = new ArrayList<>();

    // ---- the text

    private int at;
    private int[] draftValues;
    private int[] draftRanks;
    private List<List<Op>> draft;

    int type(int letter) {
        if (letter < 0 || letter > 255) return -1;
        if (text.length() == 120) return -3;
        text += (char) letter;
        return text.length();
    }

    int clear() {
        int had = text.length();
        text = "";
        return had;
    }

    int threads() {
        at = 0;
        draftValues = new int[3];
        draftRanks = new int[4];
        draft = new ArrayList<>();
        int items = 0;
        try {
            while (!peek().isEmpty()) {
                item();
                items++;
            }
        } catch (Fault fault) {
            return -10 - fault.at;
        }
        programs = draft;
        ranks = draftRanks;
        world = new World();
        world.values = draftValues;
        for (List<Op> program : programs) {
            Doer d = new Doer();
            if (program.isEmpty()) d.how = 'D';
            world.doers.add(d);
        }
        past.clear();
        seen.clear();
        images[0] = null;
        images[1] = null;
        text = "";
        return items;
    }

    /** The token at hand, blanks skipped; "" at the end of the text. */
    private String peek() {
        while (at < text.length() && text.charAt(at) == ' ') at++;
        int to = at;
        while (to < text.length() && Character.isDigit(text.charAt(to)) && text.charAt(to) < 128) to++;
        if (to == at && to < text.length()) to++;
        return text.substring(at, to);
    }

    private void item() throws Fault {
        String first = take("vtr");
        if (first.equals("t")) {
            thread();
        } else if (first.equals("v")) {
            int p = number("012");
            draftValues[p] = number("0123");
        } else {
            int t = number("0123".substring(0, draft.size()));
            draftRanks[t] = number("0123");
        }
        take(";");
    }

    private void thread() throws Fault {
        if (draft.size() == 4) throw new Fault(at - 1);
        List<Op> program = new ArrayList<>();
        draft.add(program);
        while (!peek().equals(";")) {
            char letter = take(program.size() == 5 ? "" : "siwbkqlux").charAt(0);
            int place = letter == 'x' ? -1 : number("012");
            int second = -1;
            if (letter == 's' || letter == 'w' || letter == 'b') second = number("0123");
            if (letter == 'k') second = number("123");
            if (letter == 'q') second = number("012".replace("" + place, ""));
            program.add(new Op(letter, place, second));
        }
    }

    private String take(String allowed) throws Fault {
        String token = peek();
        if (token.length() != 1 || allowed.indexOf(token.charAt(0)) < 0) throw new Fault(token.isEmpty() ? text.length() : at);
        at++;
        return token;
    }

    private int number(String allowed) throws Fault {
        return Integer.parseInt(take(allowed));
    }

    // ---- what a step does

    private void act(World w, int t) {
        Doer me = w.doers.get(t);
        Op op = programs.get(t).get(me.behind);
        int p = op.place;
        switch (op.letter) {
            case 's' -> {
                w.values[p] = op.second;
                pass(w, t);
            }
            case 'i' -> {
                w.values[p] = (w.values[p] + 1) % 4;
                pass(w, t);
            }
            case 'w' -> {
                if (w.values[p] == op.second) queueUp(w, t, 'S', p);
                else pass(w, t);
            }
            case 'b' -> {
                if (me.looked) {
                    me.looked = false;
                    queueUp(w, t, 'S', p);
                } else if (w.values[p] == op.second) {
                    me.looked = true;
                } else {
                    pass(w, t);
                }
            }
            case 'k' -> {
                List<Integer> sleepers = inRow(w, 'S', p);
                for (int s : sleepers.subList(0, Math.min(op.second, sleepers.size()))) rouse(w, s);
                pass(w, t);
            }
            case 'q' -> {
                List<Integer> sleepers = inRow(w, 'S', p);
                for (int s : sleepers) w.doers.get(s).where = op.second;
                if (!sleepers.isEmpty()) rouse(w, sleepers.get(0));
                pass(w, t);
            }
            case 'l' -> {
                if (w.owners[p] == null) {
                    own(w, t, p);
                    pass(w, t);
                } else if (reaches(w, w.owners[p], t)) {
                    pass(w, t);
                } else {
                    queueUp(w, t, 'W', p);
                }
            }
            case 'u' -> {
                if (w.owners[p] != null && w.owners[p] == t) giveAway(w, p);
                pass(w, t);
            }
            default -> {
                me.behind++;
                me.how = 'D';
                for (int q = 0; q < 3; q++) {
                    if (w.owners[q] != null && w.owners[q] == t) {
                        w.dead[q] = true;
                        giveAway(w, q);
                    }
                }
            }
        }
    }

    private void pass(World w, int t) {
        Doer d = w.doers.get(t);
        d.behind++;
        d.how = d.behind == programs.get(t).size() ? 'D' : 'A';
    }

    private void queueUp(World w, int t, char how, int p) {
        w.doers.get(t).how = how;
        w.doers.get(t).where = p;
        w.row.add(t);
    }

    private void rouse(World w, int t) {
        w.row.remove(Integer.valueOf(t));
        w.doers.get(t).where = -1;
        pass(w, t);
    }

    private List<Integer> inRow(World w, char how, int p) {
        List<Integer> those = new ArrayList<>();
        for (int t : w.row) {
            if (w.doers.get(t).how == how && w.doers.get(t).where == p) those.add(t);
        }
        return those;
    }

    private void own(World w, int t, int p) {
        if (w.dead[p]) w.found++;
        w.dead[p] = false;
        w.owners[p] = t;
    }

    private boolean reaches(World w, int from, int t) {
        if (from == t) return true;
        Doer d = w.doers.get(from);
        return d.how == 'W' && w.owners[d.where] != null && reaches(w, w.owners[d.where], t);
    }

    private void giveAway(World w, int p) {
        List<Integer> waiting = inRow(w, 'W', p);
        int highest = -1;
        for (int t : waiting) highest = Math.max(highest, lent(w, t));
        w.owners[p] = null;
        for (int t : waiting) {
            if (w.owners[p] == null && lent(w, t) == highest) {
                own(w, t, p);
                rouse(w, t);
            }
        }
    }

    private int lent(World w, int t) {
        int rank = ranks[t];
        for (int p = 0; p < 3; p++) {
            if (w.owners[p] != null && w.owners[p] == t) {
                for (int other : inRow(w, 'W', p)) rank = Math.max(rank, lent(w, other));
            }
        }
        return rank;
    }

    // ---- how things are, what is done

    int place(int p, int what) {
        if (p < 0 || p > 2 || what < 0 || what > 4) return -1;
        if (what == 0) return world.values[p];
        if (what == 1) return world.owners[p] == null ? -9 : world.owners[p];
        if (what == 2) return world.dead[p] ? 1 : 0;
        return inRow(world, what == 3 ? 'S' : 'W', p).size();
    }

    int thread(int t, int what) {
        if (t < 0 || t >= programs.size() || what < 0 || what > 5) return -1;
        Doer d = world.doers.get(t);
        return switch (what) {
            case 0 -> d.behind;
            case 1 -> "ASWD".indexOf(d.how);
            case 2 -> d.where < 0 ? -9 : d.where;
            case 3 -> ranks[t];
            case 4 -> lent(world, t);
            default -> d.looked ? 1 : 0;
        };
    }

    int row(int k) {
        if (k < 0) return -1;
        return k < world.row.size() ? world.row.get(k) : -9;
    }

    int step(int t) {
        if (t < 0 || t >= programs.size()) return -1;
        if (world.doers.get(t).how != 'A') return -2;
        past.add(world.copy());
        if (past.size() > 12) past.remove(0);
        act(world, t);
        return world.doers.get(t).behind;
    }

    int undo() {
        if (past.isEmpty()) return -2;
        world = past.remove(past.size() - 1);
        return past.size();
    }

    // ---- every interleaving

    private String knownKey = "";
    private List<List<Op>> knownPrograms = null;
    private List<World> states = new ArrayList<>();
    private int fewest;
    private String worst;

    /** How many states there are, or one more than the limit; keeps the least of all shortest ways of each. */
    int explore(int limit) {
        if (knownPrograms == programs && knownKey.equals(world.key())) return states.size();
        knownPrograms = programs;
        knownKey = world.key();
        states = new ArrayList<>();
        fewest = -1;
        worst = null;
        TreeSet<String> known = new TreeSet<>();
        Map<String, World> level = new TreeMap<>();
        Map<String, String> ways = new TreeMap<>();
        level.put(world.key(), world.copy());
        ways.put(world.key(), "");
        known.add(world.key());
        for (int depth = 0; !level.isEmpty(); depth++) {
            Map<String, World> nextLevel = new TreeMap<>();
            Map<String, String> nextWays = new TreeMap<>();
            String worstHere = null;
            for (String key : level.keySet()) {
                World w = level.get(key);
                String way = ways.get(key);
                states.add(w);
                if (states.size() > limit) return states.size();
                if (w.over() && fewest < 0) fewest = depth;
                if (w.stuck() && (worstHere == null || way.compareTo(worstHere) < 0)) worstHere = way;
                for (int t = 0; t < w.doers.size(); t++) {
                    if (w.doers.get(t).how != 'A') continue;
                    World v = w.copy();
                    act(v, t);
                    String longer = way + t;
                    if (known.contains(v.key())) continue;
                    nextLevel.putIfAbsent(v.key(), v);
                    nextWays.merge(v.key(), longer, (a, b) -> a.compareTo(b) <= 0 ? a : b);
                }
            }
            if (worst == null) worst = worstHere;
            known.addAll(nextLevel.keySet());
            level = nextLevel;
            ways = nextWays;
        }
        return states.size();
    }

    int all(int what) {
        if (what < 0 || what > 3) return -1;
        if (explore(LIMIT) > LIMIT) return -3;
        return switch (what) {
            case 0 -> states.size();
            case 1 -> (int) states.stream().filter(World::over).count();
            case 2 -> (int) states.stream().filter(World::stuck).count();
            default -> fewest;
        };
    }

    int worst(int k) {
        if (k < -1) return -1;
        if (explore(LIMIT) > LIMIT) return -3;
        if (worst == null) return -9;
        if (k == -1) return worst.length();
        return k < worst.length() ? worst.charAt(k) - '0' : -9;
    }

    int can(int p, int what) {
        if (p < 0 || p > 2 || what < 0 || what > 1) return -1;
        if (explore(LIMIT) > LIMIT) return -3;
        int bits = 0;
        for (World w : states) {
            if (what == 0 && w.over()) bits |= 1 << w.values[p];
            if (what == 1 && w.owners[p] != null) bits |= 1 << w.owners[p];
        }
        return bits;
    }

    int slept() {
        if (explore(LIMIT) > LIMIT) return -3;
        int bits = 0;
        for (World w : states) {
            if (!w.stuck()) continue;
            for (int t : w.row) bits |= 1 << t;
        }
        return bits;
    }

    // ---- which end

    int sees(int p, int v) {
        if (p < 0 || p > 2 || v < 0 || v > 3) return -1;
        if (seen.size() == 6) return -3;
        seen.add(new int[] {p, v});
        return seen.size();
    }

    int forget() {
        int was = seen.size();
        seen.clear();
        return was;
    }

    int unseen(int what) {
        if (what < 0 || what > 1) return -1;
        if (explore(LIMIT) > LIMIT) return -3;
        int n = 0;
        for (World w : states) {
            boolean fits = seen.stream().allMatch(s -> w.values[s[0]] == s[1]);
            if (fits && (what == 0 ? w.over() : w.stuck())) n++;
        }
        return n;
    }

    // ---- images

    int keep(int image) {
        if (image < 0 || image > 1) return -1;
        images[image] = world.copy();
        return programs.size();
    }

    int back(int image) {
        if (image < 0 || image > 1) return -1;
        if (images[image] == null) return -2;
        world = images[image].copy();
        past.clear();
        return programs.size();
    }

    int count(int what) {
        return switch (what) {
            case 0 -> programs.size();
            case 1 -> world.row.size();
            case 2 -> world.found;
            case 3 -> seen.size();
            case 4 -> text.length();
            case 5 -> past.size();
            default -> -1;
        };
    }
}
