import java.math.BigInteger;
import java.util.ArrayDeque;
import java.util.ArrayList;
import java.util.Arrays;
import java.util.Deque;
import java.util.HashMap;
import java.util.List;
import java.util.Map;
import java.util.NoSuchElementException;

/** The document once more, by trying everything: slow, and with nothing in common with the class but its words. */
final class PlainModel {
    static final class Token {
        final char kind;
        final String text;
        final int place;

        Token(char kind, String text, int place) {
            this.kind = kind;
            this.text = text;
            this.place = place;
        }
    }

    static final class Fault extends RuntimeException {
        private static final long serialVersionUID = 1L;
        final int kind;
        final int place;

        Fault(int kind, int place) {
            this.kind = kind;
            this.place = place;
        }
    }

    static final class World {
        final List<int[]> towns = new ArrayList<>();
        final Map<List<Integer>, Integer> trains = new HashMap<>();
        final List<Integer> trunks = new ArrayList<>();
        final List<int[]> things = new ArrayList<>();
        final List<int[]> plays = new ArrayList<>();
        final Map<List<Integer>, Integer> likes = new HashMap<>();
        Integer troupe = null;
    }

    static final class State {
        int[][] trunks = {};
        int day = 0;
        Integer seed = null;
        List<int[]> nights = new ArrayList<>();
        int[] status = new int[3];

        State copy() {
            State other = new State();
            other.trunks = new int[trunks.length][];
            for (int i = 0; i < trunks.length; i++) {
                other.trunks[i] = trunks[i].clone();
            }
            other.day = day;
            other.seed = seed;
            other.nights = new ArrayList<>(nights);
            other.status = status.clone();
            return other;
        }
    }

    private final ArrayList<Integer> tape = new ArrayList<>();
    private World world = new World();
    private State state = new State();
    private State picture = null;
    private final Deque<State> past = new ArrayDeque<>();
    private int[] kept = null;
    private int place = -1;

    // ---- the text

    int feed(int... numbers) {
        if (tape.size() + 20 > 700) {
            return -1;
        }
        for (int number : numbers) {
            for (int i = 3; i >= 0; i--) {
                tape.add(number >> 8 * i & 255);
            }
        }
        return tape.size();
    }

    int told(int n) {
        if (n < 0 || n > tape.size()) {
            throw new IllegalArgumentException();
        }
        StringBuilder text = new StringBuilder();
        for (int i = 0; i < n; i++) {
            text.append((char) (int) tape.get(i));
        }
        tape.clear();
        place = -1;
        World fresh;
        try {
            fresh = parse(text.toString());
        } catch (Fault f) {
            place = f.place;
            state.status[0]++;
            return f.kind;
        }
        world = fresh;
        int[] status = state.status;
        state = new State();
        state.status = status;
        state.trunks = new int[world.trunks.size()][];
        for (int i = 0; i < state.trunks.length; i++) {
            state.trunks[i] = new int[] {world.trunks.get(i), 0};
        }
        past.clear();
        picture = null;
        kept = null;
        return 0;
    }

    int fault() {
        return place;
    }

    private static List<Token> tokens(String text) {
        List<Token> found = new ArrayList<>();
        java.util.regex.Matcher m =
                java.util.regex.Pattern.compile("([a-z]+)|([0-9]+)|(;)|[ \\n]+|(.)", java.util.regex.Pattern.DOTALL)
                        .matcher(text);
        while (m.find()) {
            String all = m.group();
            if (m.group(1) != null) {
                found.add(new Token('w', all, m.start()));
            } else if (m.group(2) != null) {
                found.add(new Token('n', all, m.start()));
            } else if (m.group(3) != null) {
                found.add(new Token(';', all, m.start()));
            } else if (m.group(4) != null) {
                found.add(new Token('?', all, m.start()));
            }
        }
        found.add(new Token('$', "", text.length()));
        return found;
    }

    private static int number(Token t, int low, int high) {
        if (t.kind != 'n') {
            throw new Fault(1, t.place);
        }
        if (t.text.length() > 4) {
            throw new Fault(2, t.place);
        }
        int v = Integer.parseInt(t.text);
        if (v < low || v > high) {
            throw new Fault(2, t.place);
        }
        return v;
    }

    private static int known(Token t, int size) {
        int v = number(t, 0, 9999);
        if (v >= size) {
            throw new Fault(3, t.place);
        }
        return v;
    }

    private static World parse(String text) {
        List<Token> ts = tokens(text);
        World w = new World();
        int p = 0;
        while (ts.get(p).kind != '$') {
            Token head = ts.get(p);
            if (head.kind != 'w') {
                throw new Fault(1, head.place);
            }
            p++;
            switch (head.text) {
                case "town": {
                    if (w.towns.size() == 5) {
                        throw new Fault(2, head.place);
                    }
                    Token kind = ts.get(p++);
                    int k = kind.kind == 'w' ? Arrays.asList("careful", "drunk", "slow", "lazy").indexOf(kind.text) : -1;
                    if (k < 0) {
                        throw new Fault(1, kind.place);
                    }
                    int[] town = {k, 0, 0, 0};
                    if (k > 0) {
                        town[1] = number(ts.get(p++), 0, 1000);
                    }
                    if (ts.get(p).text.equals("lends")) {
                        p++;
                        town[2] = number(ts.get(p++), 0, 9);
                        town[3] = number(ts.get(p++), 0, 99);
                    }
                    stop(ts.get(p++));
                    w.towns.add(town);
                    break;
                }
                case "train": {
                    int a = known(ts.get(p++), w.towns.size());
                    Token second = ts.get(p++);
                    int b = known(second, w.towns.size());
                    if (a == b || w.trains.containsKey(List.of(a, b))) {
                        throw new Fault(4, second.place);
                    }
                    int d = number(ts.get(p++), 1, 9);
                    stop(ts.get(p++));
                    w.trains.put(List.of(a, b), d);
                    break;
                }
                case "trunk": {
                    if (w.trunks.size() == 5) {
                        throw new Fault(2, head.place);
                    }
                    int a = known(ts.get(p++), w.towns.size());
                    stop(ts.get(p++));
                    w.trunks.add(a);
                    break;
                }
                case "thing": {
                    if (w.things.size() == 10) {
                        throw new Fault(2, head.place);
                    }
                    int s = number(ts.get(p++), 0, 19);
                    int t = known(ts.get(p++), w.trunks.size());
                    stop(ts.get(p++));
                    w.things.add(new int[] {s, t});
                    break;
                }
                case "play": {
                    if (w.plays.size() == 4) {
                        throw new Fault(2, head.place);
                    }
                    List<Integer> row = new ArrayList<>();
                    row.add(number(ts.get(p++), 1, 20));
                    row.add(number(ts.get(p++), 0, 19));
                    while (ts.get(p).kind == 'n') {
                        if (row.size() == 5) {
                            throw new Fault(2, ts.get(p).place);
                        }
                        row.add(number(ts.get(p++), 0, 19));
                    }
                    stop(ts.get(p++));
                    w.plays.add(row.stream().mapToInt(i -> i).toArray());
                    break;
                }
                case "like": {
                    int a = number(ts.get(p++), 0, 19);
                    Token second = ts.get(p++);
                    int b = number(second, 0, 19);
                    if (a == b || w.likes.containsKey(List.of(a, b))) {
                        throw new Fault(4, second.place);
                    }
                    int s = number(ts.get(p++), 0, 99);
                    stop(ts.get(p++));
                    w.likes.put(List.of(a, b), s);
                    break;
                }
                case "troupe": {
                    if (w.troupe != null) {
                        throw new Fault(5, head.place);
                    }
                    int t = number(ts.get(p++), 1, 40);
                    stop(ts.get(p++));
                    w.troupe = t;
                    break;
                }
                default:
                    throw new Fault(1, head.place);
            }
        }
        return w;
    }

    private static void stop(Token t) {
        if (t.kind != ';') {
            throw new Fault(1, t.place);
        }
    }

    // ---- what there is

    private static void must(boolean there) {
        if (!there) {
            throw new NoSuchElementException();
        }
    }

    private void mustTown(int town) {
        must(town >= 0 && town < world.towns.size());
    }

    private void mustTrunk(int trunk) {
        must(trunk >= 0 && trunk < world.trunks.size());
    }

    private void mustPlay(int play) {
        must(play >= 0 && play < world.plays.size());
    }

    private int troupe() {
        return world.troupe == null ? 11 : world.troupe;
    }

    int count(int what) {
        must(what >= 0 && what <= 12);
        return new int[] {
            world.towns.size(), world.trunks.size(), world.things.size(), world.plays.size(), troupe(), state.day,
            state.nights.size(), past.size(), state.seed == null ? 0 : 1, tape.size(),
            state.status[0], state.status[1], state.status[2]
        }[what];
    }

    private int trunksAt(int town) {
        int bits = 0;
        for (int t = 0; t < state.trunks.length; t++) {
            if (state.trunks[t][0] == town && state.trunks[t][1] <= state.day) {
                bits |= 1 << t;
            }
        }
        return bits;
    }

    private int contents(int trunkBits) {
        int bits = 0;
        for (int i = 0; i < world.things.size(); i++) {
            if ((trunkBits & 1 << world.things.get(i)[1]) != 0) {
                bits |= 1 << i;
            }
        }
        return bits;
    }

    int town(int town, int what) {
        mustTown(town);
        must(what >= 0 && what <= 5);
        if (what < 4) {
            return world.towns.get(town)[what];
        }
        return what == 4 ? trunksAt(town) : contents(trunksAt(town));
    }

    int trunk(int trunk, int what) {
        mustTrunk(trunk);
        must(what >= 0 && what <= 3);
        int[] t = state.trunks[trunk];
        return new int[] {t[1] <= state.day ? t[0] : -1, t[0], t[1], contents(1 << trunk)}[what];
    }

    // ---- prices

    private static final int NO_PRICE = 1_000_000;

    /** All rows of fillers, in order; the first of least price. */
    private int[] bestRow(int play, int town, int things, int[] extra) {
        int needs = world.plays.get(play).length - 1;
        int[] best = new int[needs + 1];
        best[needs] = NO_PRICE;
        fill(play, town, things, extra, new int[needs + 1], 0, best);
        return best;
    }

    private void fill(int play, int town, int things, int[] extra, int[] row, int i, int[] best) {
        int needs = row.length - 1;
        if (i == needs) {
            if (row[needs] < best[needs]) {
                System.arraycopy(row, 0, best, 0, row.length);
            }
            return;
        }
        int wanted = world.plays.get(play)[i + 1];
        int before = row[needs];
        for (int thing = 0; thing <= world.things.size(); thing++) {
            int sort = thing < world.things.size() ? world.things.get(thing)[0] : extra == null ? -1 : extra[0];
            boolean there = thing < world.things.size() ? (things & 1 << thing) != 0 : extra != null;
            for (int j = 0; j < i; j++) {
                there &= row[j] != thing;
            }
            Integer shame = sort == wanted ? Integer.valueOf(0) : world.likes.get(List.of(sort, wanted));
            if (there && shame != null) {
                row[i] = thing;
                row[needs] = before + shame;
                fill(play, town, things, extra, row, i + 1, best);
                row[needs] = before;
            }
        }
        int lent = 0;
        for (int j = 0; j < i; j++) {
            lent += row[j] == 99 ? 1 : 0;
        }
        if (lent < world.towns.get(town)[2]) {
            row[i] = 99;
            row[needs] = before + world.towns.get(town)[3];
            fill(play, town, things, extra, row, i + 1, best);
            row[needs] = before;
        }
    }

    private final Map<List<Integer>, Integer> priced = new HashMap<>();
    private World pricedWorld = null;

    private int cost(int play, int town, int things) {
        if (pricedWorld != world) {
            priced.clear();
            pricedWorld = world;
        }
        return priced.computeIfAbsent(List.of(play, town, things), k -> {
            int[] row = bestRow(play, town, things, null);
            return row[row.length - 1];
        });
    }

    private static int orNone(int price) {
        return price >= NO_PRICE ? -1 : price;
    }

    int price(int play, int town, int things) {
        mustPlay(play);
        mustTown(town);
        if (things < 0 || things >= 1 << world.things.size()) {
            throw new IllegalArgumentException();
        }
        return orNone(cost(play, town, things));
    }

    int filled(int play, int town, int i) {
        mustPlay(play);
        mustTown(town);
        must(i >= 0 && i < world.plays.get(play).length - 1);
        int[] row = bestRow(play, town, contents(trunksAt(town)), null);
        return row[row.length - 1] >= NO_PRICE ? -1 : row[i];
    }

    int tonight(int town, int what) {
        mustTown(town);
        must(what == 0 || what == 1);
        int best = -1;
        int least = NO_PRICE;
        for (int p = 0; p < world.plays.size(); p++) {
            int c = cost(p, town, contents(trunksAt(town)));
            if (world.plays.get(p)[0] <= troupe() && c < least) {
                least = c;
                best = p;
            }
        }
        return what == 0 ? best : orNone(least);
    }

    int both(int town, int other, int what) {
        mustTown(town);
        mustTown(other);
        must(what == 0 || what == 1);
        int best = -1;
        int least = NO_PRICE;
        for (int p = 0; p < world.plays.size(); p++) {
            for (int q = 0; q < world.plays.size() && town != other; q++) {
                int c = cost(p, town, contents(trunksAt(town))) + cost(q, other, contents(trunksAt(other)));
                if (world.plays.get(p)[0] + world.plays.get(q)[0] <= troupe() && c < least) {
                    least = c;
                    best = 8 * p + q;
                }
            }
        }
        return what == 0 ? best : orNone(least);
    }

    int unopened(int play, int town, int... guesses) {
        mustPlay(play);
        mustTown(town);
        int things = contents(trunksAt(town));
        int without = Math.min(1000, cost(play, town, things));
        int sum = 0;
        int weights = 0;
        for (int g : guesses) {
            if (g < -1 || g > 1999) {
                throw new IllegalArgumentException();
            }
            if (g >= 0) {
                int[] row = bestRow(play, town, things, new int[] {g / 100});
                sum += g % 100 * Math.min(1000, row[row.length - 1]);
                weights += g % 100;
            }
        }
        if (weights == 0) {
            throw new IllegalArgumentException();
        }
        return without - sum / weights;
    }

    // ---- ways and sendings

    /** Of all rows of unlike towns, the shortest, and of like ones the first; null without. */
    private List<Integer> row(int from, int to) {
        List<List<Integer>> all = new ArrayList<>();
        walk(new ArrayList<>(List.of(from)), to, all);
        List<Integer> best = null;
        for (List<Integer> r : all) {
            if (best == null || length(r) < length(best)) {
                best = r;
            }
        }
        return best;
    }

    /** In order of rows. */
    private void walk(List<Integer> sofar, int to, List<List<Integer>> all) {
        int here = sofar.get(sofar.size() - 1);
        if (here == to) {
            all.add(new ArrayList<>(sofar));
            return;
        }
        for (int t = 0; t < world.towns.size(); t++) {
            if (!sofar.contains(t) && world.trains.containsKey(List.of(here, t))) {
                sofar.add(t);
                walk(sofar, to, all);
                sofar.remove(sofar.size() - 1);
            }
        }
    }

    private int length(List<Integer> r) {
        int sum = 0;
        for (int i = 1; i < r.size(); i++) {
            sum += world.trains.get(List.of(r.get(i - 1), r.get(i)));
        }
        return sum;
    }

    int way(int from, int to) {
        mustTown(from);
        mustTown(to);
        List<Integer> r = row(from, to);
        return r == null ? -1 : length(r);
    }

    int clerk(int from, int to, int i) {
        mustTown(from);
        mustTown(to);
        List<Integer> r = row(from, to);
        must(r != null);
        must(i >= -1 && i < r.size() - 1);
        return i == -1 ? r.size() - 1 : r.get(i);
    }

    private int astray(int here, int next) {
        for (int t = 0; t < world.towns.size(); t++) {
            if (t != next && world.trains.containsKey(List.of(here, t))) {
                return t;
            }
        }
        return -1;
    }

    /** By going through all 2^n ways in which the clerks slip or not. */
    long lost(int from, int to, int i, int what) {
        mustTown(from);
        mustTown(to);
        List<Integer> r = row(from, to);
        must(r != null);
        int n = r.size() - 1;
        must(i >= 0 && i < n);
        must(what == 0 || what == 1);
        BigInteger some = BigInteger.ZERO;
        BigInteger his = BigInteger.ZERO;
        for (int slips = 1; slips < 1 << n; slips++) {
            BigInteger likely = BigInteger.ONE;
            for (int c = 0; c < n; c++) {
                int[] town = world.towns.get(r.get(c));
                boolean can = town[0] == 3 || town[0] == 1 && astray(r.get(c), r.get(c + 1)) >= 0;
                int chance = can ? town[1] : 0;
                likely = likely.multiply(BigInteger.valueOf((slips & 1 << c) != 0 ? chance : 1000 - chance));
            }
            some = some.add(likely);
            if (Integer.numberOfTrailingZeros(slips) == i) {
                his = his.add(likely);
            }
        }
        if (his.signum() == 0) {
            return what;
        }
        BigInteger g = his.gcd(some);
        return (what == 0 ? his : some).divide(g).longValueExact();
    }

    private int draw() {
        state.seed = state.seed * 1103515245 + 12345;
        return (state.seed >> 16 & 0x7fff) % 1000;
    }

    private void remember() {
        past.addLast(state.copy());
        if (past.size() > 100) {
            past.removeFirst();
        }
    }

    int send(int trunk, int to) {
        mustTrunk(trunk);
        mustTown(to);
        int[] t = state.trunks[trunk];
        List<Integer> r = row(t[0], to);
        if (t[1] > state.day || t[0] == to || r == null) {
            state.status[1]++;
            return -1;
        }
        remember();
        int at = t[0];
        int day = state.day;
        boolean goes = true;
        for (int i = 0; goes && i + 1 < r.size(); i++) {
            int next = r.get(i + 1);
            int[] town = world.towns.get(at);
            if (state.seed != null && draw() < town[1]) {
                if (town[0] == 1 && astray(at, next) >= 0) {
                    next = astray(at, next);
                    goes = false;
                } else if (town[0] == 2) {
                    day++;
                } else if (town[0] == 3) {
                    break;
                }
            }
            day += world.trains.get(List.of(at, next));
            at = next;
        }
        state.trunks[trunk] = new int[] {at, day};
        return day;
    }

    void seed(int seed) {
        state.seed = seed;
    }

    int days(int days) {
        if (days < 0 || days > 99) {
            throw new IllegalArgumentException();
        }
        remember();
        state.day += days;
        return state.day;
    }

    boolean undo() {
        if (past.isEmpty()) {
            return false;
        }
        State before = past.removeLast();
        state.trunks = before.trunks;
        state.day = before.day;
        state.seed = before.seed;
        return true;
    }

    // ---- the tour

    int night(int day, int town, int play) {
        mustTown(town);
        mustPlay(play);
        int n = state.nights.size();
        if (n == 4 || day < 0 || day > 99 || n > 0 && state.nights.get(n - 1)[0] > day) {
            state.status[2]++;
            return -1;
        }
        state.nights.add(new int[] {day, town, play});
        return n + 1;
    }

    void forget() {
        state.nights.clear();
    }

    private boolean possible(int trunk, int set) {
        int at = state.trunks[trunk][0];
        int day = Math.max(state.day, state.trunks[trunk][1]);
        for (int n = 0; n < state.nights.size(); n++) {
            if ((set & 1 << n) != 0) {
                int[] night = state.nights.get(n);
                int w = way(at, night[1]);
                if (night[0] < state.day || w < 0 || day + w > night[0]) {
                    return false;
                }
                at = night[1];
                day = night[0];
            }
        }
        return true;
    }

    /** Every row of sets, in order: its cost behind the sets of the first of the cheapest. */
    private int[] cheapest(int without) {
        int n = state.trunks.length;
        List<List<Integer>> sets = new ArrayList<>();
        for (int t = 0; t < n; t++) {
            List<Integer> mine = new ArrayList<>();
            for (int s = 0; s < 1 << state.nights.size(); s++) {
                if (s == 0 || t != without && possible(t, s)) {
                    mine.add(s);
                }
            }
            sets.add(mine);
        }
        int[] best = new int[n + 1];
        best[n] = NO_PRICE;
        tryRows(sets, new int[n], 0, best);
        return best;
    }

    private void tryRows(List<List<Integer>> sets, int[] row, int t, int[] best) {
        if (t < row.length) {
            for (int s : sets.get(t)) {
                row[t] = s;
                tryRows(sets, row, t + 1, best);
            }
            return;
        }
        int sum = 0;
        for (int n = 0; n < state.nights.size(); n++) {
            int bits = 0;
            for (int u = 0; u < row.length; u++) {
                bits |= (row[u] >> n & 1) << u;
            }
            int[] night = state.nights.get(n);
            sum += cost(night[2], night[1], contents(bits));
        }
        if (sum < best[row.length]) {
            System.arraycopy(row, 0, best, 0, row.length);
            best[row.length] = sum;
        }
    }

    int tour() {
        int[] best = cheapest(-1);
        if (best[best.length - 1] >= NO_PRICE) {
            return -1;
        }
        kept = best;
        return best[best.length - 1];
    }

    int rides(int trunk) {
        mustTrunk(trunk);
        must(kept != null);
        return kept[trunk];
    }

    int spared(int what) {
        must(what == 0 || what == 1);
        int best = -1;
        int least = NO_PRICE;
        for (int t = 0; t < state.trunks.length; t++) {
            int[] row = cheapest(t);
            if (row[row.length - 1] < least) {
                least = row[row.length - 1];
                best = t;
            }
        }
        return what == 0 ? best : orNone(least);
    }

    // ---- the image

    void image() {
        picture = state.copy();
    }

    boolean restore() {
        if (picture == null) {
            return false;
        }
        state = picture.copy();
        past.clear();
        return true;
    }
}
