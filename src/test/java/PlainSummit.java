import java.math.BigInteger;
import java.util.ArrayDeque;
import java.util.ArrayList;
import java.util.Deque;
import java.util.List;
import java.util.regex.Matcher;
import java.util.regex.Pattern;

/**
 * The document written a second time, slowly and second by second, to set the class against:
 * owners in a row, every order tried, odds by every weather. It shares no code with the class.
 */
final class PlainSummit {
    static final int NONE = -1, UNKNOWN = -2, OUTSIDE = -3, NOT = -4, FULL = -5;

    private record Person(String kind, int pace, int stay, int rent) {
        int walk() {
            return kind.equals("guide") && pace > 1 ? pace - 1 : pace;
        }
    }

    private static final class World {
        List<Person> people = new ArrayList<>();
        int[] deeds = filled(60, NONE);
        boolean[] clouded = new boolean[60];
    }

    private record State(int[] owner, int[] start, boolean[] rope, int clock) {
        State copy() {
            return new State(owner.clone(), start.clone(), rope.clone(), clock);
        }

        State withClock(int k) {
            return new State(owner, start, rope, k);
        }
    }

    private final StringBuilder text = new StringBuilder();
    private World world = new World();
    private State state = new State(filled(60, NONE), filled(6, NONE), new boolean[6], 0);
    private final Deque<State> past = new ArrayDeque<>();
    private final State[] kept = new State[2];
    private final List<int[]> seen = new ArrayList<>();

    private static int[] filled(int n, int value) {
        int[] row = new int[n];
        java.util.Arrays.fill(row, value);
        return row;
    }

    private boolean no(int person) {
        return person < 0 || person >= world.people.size();
    }

    private static boolean out(int n, int least, int most) {
        return n < least || n > most;
    }

    // ---- texts

    private static final Pattern TOKEN = Pattern.compile("[a-z]+|[0-9]+|[^ ]", Pattern.DOTALL);

    /** Reads into a world: the place of the fault, or NONE; counts clauses in done[0]. */
    private static int read(String text, World w, int[] done) {
        List<String> tokens = new ArrayList<>();
        List<Integer> places = new ArrayList<>();
        Matcher m = TOKEN.matcher(text);
        while (m.find()) {
            tokens.add(m.group());
            places.add(m.start());
        }
        tokens.add("");
        places.add(text.length());
        int at = 0;
        while (true) {
            String word = tokens.get(at);
            int[][] bounds;
            switch (word) {
                case "top", "clear" -> bounds = new int[0][];
                case "climber", "guide", "mourner", "bank" -> {
                    if (w.people.size() == 6) {
                        return places.get(at);
                    }
                    bounds = new int[][] {{1, 20}, {1, 6}, {0, 20}};
                }
                case "deed" -> bounds = new int[][] {{0, w.people.size() - 1}, {0, 59}, {NONE, 59}};
                case "fog" -> bounds = new int[][] {{0, 59}, {NONE, 59}};
                default -> {
                    return places.get(at);
                }
            }
            int[] n = new int[bounds.length];
            for (int i = 0; i < n.length; i++) {
                at++;
                String token = tokens.get(at);
                if (!token.matches("[0-9]{1,2}")) {
                    return places.get(at);
                }
                n[i] = Integer.parseInt(token);
                int least = bounds[i][0] == NONE ? n[i - 1] : bounds[i][0];
                if (n[i] < least || n[i] > bounds[i][1]) {
                    return places.get(at);
                }
            }
            tell(w, word, n);
            done[0]++;
            at++;
            if (tokens.get(at).isEmpty()) {
                return NONE;
            }
            if (!tokens.get(at).equals(";") || done[0] == 14) {
                return places.get(at);
            }
            at++;
        }
    }

    private static void tell(World w, String word, int[] n) {
        switch (word) {
            case "top" -> {
                w.people.clear();
                java.util.Arrays.fill(w.deeds, NONE);
                java.util.Arrays.fill(w.clouded, false);
            }
            case "clear" -> java.util.Arrays.fill(w.clouded, false);
            case "deed" -> {
                for (int s = n[1]; s <= n[2]; s++) {
                    w.deeds[s] = n[0];
                }
            }
            case "fog" -> {
                for (int s = n[0]; s <= n[1]; s++) {
                    w.clouded[s] = true;
                }
            }
            default -> w.people.add(new Person(word, n[0], n[1], n[2]));
        }
    }

    private World copyOfWorld() {
        World w = new World();
        w.people = new ArrayList<>(world.people);
        w.deeds = world.deeds.clone();
        w.clouded = world.clouded.clone();
        return w;
    }

    int write(int letter) {
        if (out(letter, 0, 255)) {
            return OUTSIDE;
        }
        if (text.length() == 160) {
            return FULL;
        }
        text.append((char) letter);
        return text.length();
    }

    int erase() {
        int n = text.length();
        text.setLength(0);
        return n;
    }

    int fault() {
        return read(text.toString(), copyOfWorld(), new int[1]);
    }

    int top() {
        World w = copyOfWorld();
        int[] done = new int[1];
        if (read(text.toString(), w, done) != NONE) {
            return NOT;
        }
        world = w;
        state = new State(w.deeds.clone(), filled(6, NONE), new boolean[6], 0);
        past.clear();
        kept[0] = null;
        kept[1] = null;
        seen.clear();
        text.setLength(0);
        return done[0];
    }

    // ---- who stands where, and what it costs

    private boolean stands(State st, int p, int second) {
        if (st.start[p] == NONE) {
            return false;
        }
        Person who = world.people.get(p);
        int first = st.start[p] + who.walk() + st.clock;
        return second >= first && second < first + who.stay;
    }

    private int cost(State st, int p, int second) {
        int owner = st.owner[second];
        if (world.clouded[second] || owner == p || owner == NONE) {
            return 0;
        }
        if (second >= 50 && world.people.get(p).kind.equals("mourner")) {
            return 0;
        }
        Person o = world.people.get(owner);
        return o.kind.equals("bank") ? 2 * o.rent : o.rent;
    }

    private int fineUnroped(State st, int p) {
        int sum = 0;
        for (int s = 0; s < 60; s++) {
            if (!stands(st, p, s)) {
                continue;
            }
            int ahead = 0;
            for (int q = 0; q < p; q++) {
                ahead += stands(st, q, s) ? 1 : 0;
            }
            sum += cost(st, p, s) + (ahead >= 2 ? 1 : 0);
        }
        return sum;
    }

    private int fine(State st, int p) {
        int whole = fineUnroped(st, p);
        return st.rope[p] ? whole / 2 : whole;
    }

    // ---- asked

    int person(int p, int what) {
        if (no(p)) {
            return UNKNOWN;
        }
        if (out(what, 0, 9)) {
            return OUTSIDE;
        }
        Person who = world.people.get(p);
        int first = NONE;
        int stood = 0;
        int his = 0;
        for (int s = 59; s >= 0; s--) {
            if (stands(state, p, s)) {
                first = s;
                stood++;
            }
            his += state.owner[s] == p ? 1 : 0;
        }
        return new int[] {List.of("climber", "guide", "mourner", "bank").indexOf(who.kind), who.pace,
            who.stay, who.rent, state.start[p], state.rope[p] ? 1 : 0, first, stood, fine(state, p), his}[what];
    }

    int second(int s, int what) {
        if (out(s, 0, 59) || out(what, 0, 2)) {
            return OUTSIDE;
        }
        int bits = 0;
        for (int p = 0; p < world.people.size(); p++) {
            bits += stands(state, p, s) ? 1 << p : 0;
        }
        return new int[] {state.owner[s], world.clouded[s] ? 1 : 0, bits}[what];
    }

    int as(int p, int kind) {
        if (no(p)) {
            return UNKNOWN;
        }
        if (out(kind, 0, 4)) {
            return OUTSIDE;
        }
        Person who = world.people.get(p);
        List<Integer> is = switch (who.kind) {
            case "climber" -> List.of(0, 1);
            case "guide" -> List.of(0, 1, 2);
            case "mourner" -> List.of(0, 1, 3);
            default -> List.of(0, 4);
        };
        if (!is.contains(kind)) {
            return NOT;
        }
        return who.walk() + 100 * (who.kind.equals("bank") ? 2 * who.rent : who.rent);
    }

    // ---- done

    private void remember() {
        past.push(state.copy());
        if (past.size() > 8) {
            past.removeLast();
        }
    }

    int start(int p, int s) {
        if (no(p)) {
            return UNKNOWN;
        }
        if (out(s, 0, 59)) {
            return OUTSIDE;
        }
        remember();
        state.start[p] = s;
        return s + world.people.get(p).walk() + state.clock;
    }

    int stays(int p) {
        if (no(p)) {
            return UNKNOWN;
        }
        int had = state.start[p];
        if (had == NONE) {
            return NOT;
        }
        remember();
        state.start[p] = NONE;
        return had;
    }

    int rope(int p, int on) {
        if (no(p)) {
            return UNKNOWN;
        }
        if (out(on, 0, 1)) {
            return OUTSIDE;
        }
        remember();
        int had = state.rope[p] ? 1 : 0;
        state.rope[p] = on == 1;
        return had;
    }

    int clock(int k) {
        if (out(k, 0, 9)) {
            return OUTSIDE;
        }
        remember();
        int was = state.clock;
        state = state.withClock(k);
        return was;
    }

    int halve(int p, int other) {
        if (no(p) || no(other) || p == other) {
            return UNKNOWN;
        }
        List<Integer> his = new ArrayList<>();
        for (int s = 0; s < 60; s++) {
            if (state.owner[s] == p) {
                his.add(s);
            }
        }
        if (his.size() < 2) {
            return NOT;
        }
        remember();
        int n = 0;
        for (int i = 1; i < his.size(); i += 2) {
            state.owner[his.get(i)] = other;
            n++;
        }
        return n;
    }

    int sell(int s, int p) {
        if (p != NONE && no(p)) {
            return UNKNOWN;
        }
        if (out(s, 0, 59)) {
            return OUTSIDE;
        }
        if (state.owner[s] == p) {
            return NOT;
        }
        remember();
        int was = state.owner[s];
        state.owner[s] = p;
        return was;
    }

    int undo() {
        if (past.isEmpty()) {
            return NOT;
        }
        state = past.pop();
        return past.size();
    }

    int keep(int k) {
        if (out(k, 0, 1)) {
            return UNKNOWN;
        }
        kept[k] = state.copy();
        return state.clock;
    }

    int back(int k) {
        if (out(k, 0, 1)) {
            return UNKNOWN;
        }
        if (kept[k] == null) {
            return NOT;
        }
        state = kept[k].copy();
        past.clear();
        return state.clock;
    }

    // ---- foretold

    int best(int p, int what) {
        if (no(p)) {
            return UNKNOWN;
        }
        if (out(what, 0, 1)) {
            return OUTSIDE;
        }
        int best = NONE;
        int least = Integer.MAX_VALUE;
        for (int s = 0; s < 60; s++) {
            State st = state.copy();
            st.start[p] = s;
            int stood = 0;
            for (int t = 0; t < 60; t++) {
                stood += stands(st, p, t) ? 1 : 0;
            }
            int fine = fine(st, p);
            if (stood == world.people.get(p).stay && fine < least) {
                best = s;
                least = fine;
            }
        }
        return best == NONE || what == 0 ? best : least;
    }

    private int leastSum;
    private List<Integer> leastRow;

    private void tryRows(List<Integer> row, List<Integer> rest, int next, State st) {
        if (rest.isEmpty()) {
            int sum = 0;
            for (int p : row) {
                sum += fine(st, p);
            }
            if (leastRow == null || sum < leastSum) {
                leastSum = sum;
                leastRow = new ArrayList<>(row);
            }
            return;
        }
        if (next > 59) {
            return;
        }
        for (int p : rest) {
            List<Integer> longer = new ArrayList<>(row);
            longer.add(p);
            List<Integer> others = new ArrayList<>(rest);
            others.remove((Integer) p);
            State then = st.copy();
            then.start[p] = next;
            Person who = world.people.get(p);
            tryRows(longer, others, next + who.walk() + st.clock + who.stay, then);
        }
    }

    int order(int set, int a, int what) {
        List<Integer> all = new ArrayList<>();
        for (int p = 0; p < 32; p++) {
            if ((set >>> p & 1) != 0) {
                if (no(p)) {
                    return UNKNOWN;
                }
                all.add(p);
            }
        }
        if (out(a, 0, 59) || out(what, 0, 6)) {
            return OUTSIDE;
        }
        leastRow = null;
        State st = state.copy();
        java.util.Arrays.fill(st.start, NONE);
        tryRows(List.of(), all, a, st);
        if (leastRow == null) {
            return NONE;
        }
        if (what == 0) {
            return leastSum;
        }
        return what <= leastRow.size() ? leastRow.get(what - 1) : NONE;
    }

    long reached() {
        long bits = 0;
        for (int p = 0; p < world.people.size(); p++) {
            for (int s = 0; s < 60; s++) {
                State st = state.copy();
                st.start[p] = s;
                for (int t = 0; t < 60; t++) {
                    bits |= stands(st, p, t) ? 1L << t : 0;
                }
            }
        }
        return bits;
    }

    long free(int p) {
        if (no(p)) {
            return UNKNOWN;
        }
        long bits = 0;
        for (int s = 0; s < 60; s++) {
            bits |= cost(state, p, s) == 0 ? 1L << s : 0;
        }
        return bits;
    }

    int ropes(int n) {
        if (out(n, 0, 99)) {
            return OUTSIDE;
        }
        int best = NONE;
        for (int set = 0; set < 1 << world.people.size(); set++) {
            State st = state.copy();
            boolean fits = true;
            for (int p = 0; p < world.people.size(); p++) {
                st.rope[p] = (set >> p & 1) != 0;
                fits &= fine(st, p) <= n;
            }
            if (fits && (best == NONE || Integer.bitCount(set) < Integer.bitCount(best))) {
                best = set;
            }
        }
        return best;
    }

    int together(int p, int q) {
        if (no(p) || no(q) || p == q) {
            return UNKNOWN;
        }
        int n = 0;
        for (int s = 0; s < 60; s++) {
            n += stands(state, p, s) && stands(state, q, s) ? 1 : 0;
        }
        return n;
    }

    // ---- seen

    int seen(int p, int fine) {
        if (no(p)) {
            return UNKNOWN;
        }
        if (out(fine, 0, 99)) {
            return OUTSIDE;
        }
        if (seen.size() == 6) {
            return FULL;
        }
        seen.add(new int[] {p, fine});
        return seen.size();
    }

    int forget() {
        int n = seen.size();
        seen.clear();
        return n;
    }

    int clocks() {
        int bits = 0;
        for (int k = 0; k <= 9; k++) {
            boolean so = true;
            for (int[] row : seen) {
                so &= fine(state.withClock(k), row[0]) == row[1];
            }
            bits |= so ? 1 << k : 0;
        }
        return bits;
    }

    int clear(int p, int k, int q, int part) {
        if (no(p)) {
            return UNKNOWN;
        }
        if (out(k, 0, 6) || out(q, 0, 10) || out(part, 0, 1)) {
            return OUTSIDE;
        }
        int stood = person(p, 7);
        long above = 0;
        for (int weather = 0; weather < 1 << stood; weather++) {
            if (Integer.bitCount(weather) >= k) {
                long ways = 1;
                for (int i = 0; i < stood; i++) {
                    ways *= (weather >> i & 1) != 0 ? 10 - q : q;
                }
                above += ways;
            }
        }
        BigInteger a = BigInteger.valueOf(above);
        BigInteger b = BigInteger.TEN.pow(stood);
        return (part == 0 ? a : b).divide(a.gcd(b)).intValueExact();
    }

    int count(int what) {
        if (out(what, 0, 9)) {
            return OUTSIDE;
        }
        int go = 0;
        int ropes = 0;
        int fines = 0;
        int owned = 0;
        int clouds = 0;
        for (int p = 0; p < world.people.size(); p++) {
            go += state.start[p] != NONE ? 1 << p : 0;
            ropes += state.rope[p] ? 1 << p : 0;
            fines += fine(state, p);
        }
        for (int s = 0; s < 60; s++) {
            owned += state.owner[s] != NONE ? 1 : 0;
            clouds += world.clouded[s] ? 1 : 0;
        }
        return new int[] {world.people.size(), state.clock, go, fines, owned, clouds, ropes, seen.size(),
            past.size(), text.length()}[what];
    }
}
