import java.math.BigInteger;
import java.util.ArrayList;
import java.util.HashMap;
import java.util.List;
import java.util.Map;
import java.util.TreeSet;

/**
 * The document built a second time, in another way: a class for each KIND, every state kept whole,
 * every search done in full. It is slow and makes objects freely; ModelTests compares it with FlapBoard.
 */
final class Model {
    static final int BAD = -1, FULL = -2, FINDING = -3, STATE = -4, NONE = -9;

    // ---- drums

    static class Flap {
        int shows, goal, mark;
        boolean jammed;

        int kind() {
            return 0;
        }

        boolean due(int tick) {
            return true;
        }

        int turn() {
            return (shows + 1) % 10;
        }

        final boolean ready(int tick) {
            return shows != goal && due(tick);
        }

        final Flap as(int kind) {
            Flap other = make(kind);
            other.shows = shows;
            other.goal = goal;
            other.mark = mark;
            other.jammed = jammed;
            return other;
        }

        static Flap make(int kind) {
            switch (kind) {
                case 0: return new Flap();
                case 1: return new Slow();
                case 2: return new Skip();
                case 3: return new Back();
                case 4: return new Sticky();
                default: return new Quick();
            }
        }
    }

    static class Slow extends Flap {
        @Override int kind() {
            return 1;
        }

        @Override boolean due(int tick) {
            return tick % 2 == 0;
        }
    }

    static class Sticky extends Slow {
        @Override int kind() {
            return 4;
        }

        @Override boolean due(int tick) {
            return shows == mark ? tick % 4 == 0 : super.due(tick);
        }
    }

    static class Skip extends Flap {
        @Override int kind() {
            return 2;
        }

        int once(int from) {
            int next = (from + 1) % 10;
            if (next == mark && goal != mark) {
                next = (next + 1) % 10;
            }
            return next;
        }

        @Override int turn() {
            return once(shows);
        }
    }

    static class Quick extends Skip {
        @Override int kind() {
            return 5;
        }

        @Override int turn() {
            int first = once(shows);
            return first == goal ? first : once(first);
        }
    }

    static class Back extends Flap {
        @Override int kind() {
            return 3;
        }

        @Override int turn() {
            return (shows + 9) % 10;
        }
    }

    // ---- a state

    static final class State {
        final List<Flap> drums = new ArrayList<>();
        int power, tick, turns;

        State twin() {
            State s = new State();
            for (Flap d : drums) {
                s.drums.add(d.as(d.kind()));
            }
            s.power = power;
            s.tick = tick;
            s.turns = turns;
            return s;
        }

        State next() {
            State s = twin();
            List<Flap> turning = new ArrayList<>();
            for (Flap d : s.drums) {
                if (d.ready(tick) && !d.jammed) {
                    turning.add(d);
                }
            }
            int n = Math.min(power, turning.size());
            for (Flap d : turning.subList(0, n)) {
                d.shows = d.turn();
            }
            s.turns += n;
            s.tick++;
            return s;
        }

        State after(int n) {
            State s = this;
            for (int t = 0; t < n; t++) {
                s = s.next();
            }
            return s;
        }

        boolean told() {
            return drums.stream().allMatch(d -> d.shows == d.goal);
        }

        int number() {
            StringBuilder figures = new StringBuilder("0");
            for (Flap d : drums) {
                figures.append(d.shows);
            }
            return Integer.parseInt(figures.toString());
        }

        /** Behind 0 .. 60 ticks; 61: not by then. */
        int end() {
            State s = this;
            for (int t = 0; t <= 60; t++) {
                if (s.told()) {
                    return t;
                }
                s = s.next();
            }
            return 61;
        }

        State aimedAt(int message) {
            State s = twin();
            String figures = String.format("%0" + drums.size() + "d", message);
            for (int i = 0; i < drums.size(); i++) {
                s.drums.get(i).goal = figures.charAt(i) - '0';
            }
            return s;
        }

        State aimed(int i, int f) {
            State s = twin();
            s.drums.get(i).goal = f;
            return s;
        }
    }

    private final int[][] rows = new int[6][];
    private final byte[][] texts = new byte[4][];
    /** All states from the beginning on, one more than there are deeds; empty: no drums. */
    private List<State> past = new ArrayList<>();
    private final Map<Integer, List<State>> kept = new HashMap<>();
    private final int[] found = new int[6];
    private int finding, asked;
    private BigInteger upper = BigInteger.ZERO, lower = BigInteger.ONE;

    private State now() {
        return past.isEmpty() ? new State() : past.get(past.size() - 1);
    }

    private boolean none() {
        return past.isEmpty();
    }

    private boolean drumThere(int i) {
        return i >= 0 && i < now().drums.size();
    }

    private int deedCount() {
        return Math.max(0, past.size() - 1);
    }

    private int find(int f) {
        finding = f;
        found[f]++;
        return FINDING;
    }

    private static boolean in(int v, int low, int high) {
        return v >= low && v <= high;
    }

    // ---- rows, texts, boards

    int row(int r, int n) {
        if (!in(r, 0, 5) || n > 40) return BAD;
        if (n < 0) return find(5);
        rows[r] = new int[n];
        return n;
    }

    int lay(int r, int i, int v) {
        int answer = at(r, i);
        if (answer == 1) rows[r][i] = v;
        return answer;
    }

    int at(int r, int i) {
        if (!in(r, 0, 5)) return BAD;
        if (rows[r] == null) return find(1);
        if (!in(i, 0, rows[r].length - 1)) return find(2);
        asked = rows[r][i];
        return 1;
    }

    int tear(int r) {
        if (!in(r, 0, 5)) return BAD;
        if (rows[r] == null) return find(1);
        rows[r] = null;
        return 1;
    }

    int copy(int r, int i, int to, int j, int n) {
        if (!in(r, 0, 5) || !in(to, 0, 5)) return BAD;
        if (n < 0) return find(5);
        if (rows[r] == null || rows[to] == null) return find(1);
        if (i < 0 || j < 0 || (long) i + n > rows[r].length || (long) j + n > rows[to].length) return find(2);
        int[] taken = rows[r].clone();
        for (int k = 0; k < n; k++) {
            rows[to][j + k] = taken[i + k];
        }
        return 1;
    }

    int mean(int r) {
        if (!in(r, 0, 5)) return BAD;
        if (rows[r] == null) return find(1);
        if (rows[r].length == 0) return find(4);
        BigInteger sum = BigInteger.ZERO;
        for (int v : rows[r]) {
            sum = sum.add(BigInteger.valueOf(v));
        }
        asked = sum.divide(BigInteger.valueOf(rows[r].length)).intValueExact();
        return 1;
    }

    int text(int t, int n) {
        if (!in(t, 0, 3) || n > 60) return BAD;
        if (n < 0) return find(5);
        texts[t] = " ".repeat(n).getBytes();
        return n;
    }

    int put(int t, int i, int v) {
        if (!in(t, 0, 3)) return BAD;
        if (texts[t] == null) return find(1);
        if (!in(i, 0, texts[t].length - 1)) return find(2);
        int was = texts[t][i];
        texts[t][i] = (byte) v;
        return 1000 + was;
    }

    /** Reads sign by sign: what may stand at each place follows from how much of an item is there. */
    private static int read(byte[] text, State into) {
        int within = -1; // -1: the power is due; 0: a letter is due; 1, 2: a figure is due
        Flap drum = null;
        for (int place = 0; place < text.length; place++) {
            int c = text[place];
            boolean figure = in(c, '0', '9');
            if (c == ' ' && within <= 0) continue;
            if (within == -1) {
                if (!figure || c == '0') return place;
                into.power = c - '0';
                within = 0;
            } else if (within == 0) {
                int kind = c > 0 ? "fskbtq".indexOf(c) : -1;
                if (kind < 0 || into.drums.size() == 7) return place;
                drum = Flap.make(kind);
                within = 1;
            } else if (!figure) {
                return place;
            } else if (within == 1) {
                drum.shows = c - '0';
                drum.goal = drum.shows;
                within = 2;
            } else {
                drum.mark = c - '0';
                into.drums.add(drum);
                within = 0;
            }
        }
        return within == 0 && into.drums.size() >= 2 ? NONE : text.length;
    }

    int fault(int t) {
        if (!in(t, 0, 3)) return BAD;
        return texts[t] == null ? find(1) : read(texts[t], new State());
    }

    int board(int t) {
        if (!in(t, 0, 3)) return BAD;
        if (texts[t] == null) return find(1);
        State first = new State();
        if (read(texts[t], first) != NONE) return STATE;
        past = new ArrayList<>(List.of(first));
        kept.clear();
        return first.drums.size();
    }

    private int fact(int i, int what) {
        Flap d = now().drums.get(i);
        int[] facts = {d.kind(), d.shows, d.goal, d.mark, d.jammed ? 1 : 0, d.ready(now().tick) ? 1 : 0, d.turn()};
        return facts[what];
    }

    int drum(int i, int what) {
        if (!drumThere(i) || !in(what, 0, 6)) return BAD;
        asked = fact(i, what);
        return 1;
    }

    int mark(int i, int kind) {
        if (!drumThere(i) || !in(kind, 1, 5)) return BAD;
        Flap d = now().drums.get(i);
        int tick = now().tick;
        if (kind == 1 && d instanceof Slow) {
            int n = 0;
            for (int t = tick; t < tick + 8; t++) n += d.due(t) ? 1 : 0;
            return n;
        }
        if (kind == 2 && d instanceof Skip) {
            Flap turning = d.as(d.kind());
            turning.shows = 0;
            TreeSet<Integer> seen = new TreeSet<>();
            for (int n = 0; n < 1000; n++) {
                seen.add(turning.shows);
                turning.shows = turning.turn();
            }
            return 10 - seen.size();
        }
        if (kind == 3 && d instanceof Back) {
            Flap turning = d.as(3);
            int n = 0;
            for (; turning.shows != turning.goal; n++) turning.shows = turning.turn();
            return n;
        }
        if (kind == 4 && d instanceof Sticky) {
            int n = 0;
            for (int t = tick; t < tick + 8; t++) n += d.as(1).due(t) && !d.due(t) ? 1 : 0;
            return n;
        }
        if (kind == 5 && d instanceof Quick) {
            int n = 0;
            while ((d.shows + n) % 10 != d.turn()) n++;
            return n;
        }
        return find(3);
    }

    // ---- deeds

    private State deed() {
        State s = now().twin();
        past.add(s);
        return s;
    }

    int tick() {
        if (none() || now().tick == 99) return STATE;
        if (deedCount() >= 40) return FULL;
        int before = now().turns;
        past.add(now().next());
        return now().turns - before;
    }

    int aim(int i, int f) {
        if (!drumThere(i) || !in(f, 0, 9)) return BAD;
        int was = now().drums.get(i).goal;
        if (was == f) return STATE;
        if (deedCount() >= 40) return FULL;
        deed().drums.get(i).goal = f;
        return was;
    }

    int power(int n) {
        if (!in(n, 1, 9)) return BAD;
        int was = now().power;
        if (none() || was == n) return STATE;
        if (deedCount() >= 40) return FULL;
        deed().power = n;
        return was;
    }

    int jam(int i) {
        if (!drumThere(i)) return BAD;
        if (deedCount() >= 40) return FULL;
        Flap d = deed().drums.get(i);
        d.jammed = !d.jammed;
        return Integer.bitCount(count(5));
    }

    int undo(int n) {
        if (!in(n, 0, deedCount())) return BAD;
        int undone = deedCount() - n;
        if (!none()) past = new ArrayList<>(past.subList(0, n + 1));
        return undone;
    }

    int keep(int k) {
        if (!in(k, 0, 2)) return BAD;
        if (none()) return STATE;
        kept.put(k, new ArrayList<>(past));
        return deedCount();
    }

    int on(int k) {
        if (!in(k, 0, 2)) return BAD;
        if (!kept.containsKey(k)) return find(1);
        past = new ArrayList<>(kept.get(k));
        return deedCount();
    }

    // ---- what comes, what to do

    int later(int n) {
        if (!in(n, 0, 60)) return BAD;
        if (none()) return STATE;
        State s = now().after(n);
        asked = s.turns - now().turns;
        return s.number();
    }

    int ends() {
        if (none()) return STATE;
        int end = now().end();
        if (end > 60) return NONE;
        asked = now().after(end).turns - now().turns;
        return end;
    }

    int passes() {
        if (none()) return STATE;
        TreeSet<Integer> seen = new TreeSet<>();
        for (int t = 0; t <= Math.min(60, now().end()); t++) {
            seen.add(now().after(t).number());
        }
        asked = seen.last();
        return seen.size();
    }

    int least() {
        if (none()) return STATE;
        int[] end = new int[10];
        for (int p = 1; p <= 9; p++) {
            State s = now().twin();
            s.power = p;
            end[p] = s.end();
        }
        if (end[9] > 60) return NONE;
        asked = end[9];
        int p = 1;
        while (end[p] != end[9]) p++;
        return p;
    }

    private int messages(int r) {
        if (none()) return STATE;
        if (rows[r] == null) return find(1);
        if (!in(rows[r].length, 1, 5)) return find(5);
        for (int v : rows[r]) {
            if (v < 0 || String.valueOf(v).length() > now().drums.size()) return find(3);
        }
        return 0;
    }

    int soonest(int r) {
        if (!in(r, 0, 5)) return BAD;
        int refused = messages(r);
        if (refused != 0) return refused;
        int best = NONE;
        int fewest = 61;
        for (int i = 0; i < rows[r].length; i++) {
            int end = now().aimedAt(rows[r][i]).end();
            if (end < fewest) {
                best = i;
                fewest = end;
            }
        }
        if (best != NONE) asked = fewest;
        return best;
    }

    private static void orders(List<Integer> head, int n, List<List<Integer>> all) {
        if (head.size() == n) all.add(new ArrayList<>(head));
        for (int i = 0; i < n; i++) {
            if (!head.contains(i)) {
                head.add(i);
                orders(head, n, all);
                head.remove(head.size() - 1);
            }
        }
    }

    private int ticksOf(List<Integer> order, int[] messages) {
        State s = now();
        int ticks = 0;
        for (int place : order) {
            s = s.aimedAt(messages[place]);
            int end = s.end();
            if (end > 60) return -1;
            s = s.after(end);
            ticks += end;
        }
        return ticks;
    }

    int order(int r, int to) {
        if (!in(r, 0, 5) || !in(to, 0, 5)) return BAD;
        int refused = messages(r);
        if (refused != 0) return refused;
        List<List<Integer>> all = new ArrayList<>();
        orders(new ArrayList<>(), rows[r].length, all);
        int fewest = NONE;
        List<Integer> best = null;
        for (List<Integer> order : all) {
            int ticks = ticksOf(order, rows[r]);
            if (ticks >= 0 && (best == null || ticks < fewest)) {
                fewest = ticks;
                best = order;
            }
        }
        if (best != null) rows[to] = best.stream().mapToInt(v -> v).toArray();
        return fewest;
    }

    // ---- which drum it is

    private int showed(int i, int r) {
        if (!drumThere(i) || !in(r, 0, 5)) return BAD;
        if (rows[r] == null) return find(1);
        if (!in(rows[r].length, 1, 20)) return find(5);
        for (int v : rows[r]) {
            if (!in(v, 0, 9)) return find(3);
        }
        return 0;
    }

    int[] shownBy(int i, int kind, int mark, int ticks) {
        State s = now().twin();
        s.drums.set(i, s.drums.get(i).as(kind));
        s.drums.get(i).mark = mark;
        int[] shown = new int[ticks];
        for (int t = 0; t < ticks; t++) {
            s = s.next();
            shown[t] = s.drums.get(i).shows;
        }
        return shown;
    }

    private List<Integer> kindsOf(int i, int r) {
        List<Integer> all = new ArrayList<>();
        for (int kind = 0; kind < 6; kind++) {
            if (java.util.Arrays.equals(shownBy(i, kind, now().drums.get(i).mark, rows[r].length), rows[r])) all.add(kind);
        }
        return all;
    }

    int kinds(int i, int r) {
        int refused = showed(i, r);
        if (refused != 0) return refused;
        int bits = 0;
        for (int kind : kindsOf(i, r)) bits += 1 << kind;
        return bits;
    }

    int marks(int i, int r) {
        int refused = showed(i, r);
        if (refused != 0) return refused;
        int bits = 0;
        for (int mark = 0; mark < 10; mark++) {
            int[] shown = shownBy(i, now().drums.get(i).kind(), mark, rows[r].length);
            if (java.util.Arrays.equals(shown, rows[r])) bits += 1 << mark;
        }
        return bits;
    }

    int test(int i, int r) {
        int refused = showed(i, r);
        if (refused != 0) return refused;
        List<Integer> all = kindsOf(i, r);
        if (all.isEmpty()) return NONE;
        int best = 0;
        int least = 99;
        for (int t = 1; t <= 20; t++) {
            Map<Integer, Integer> parts = new HashMap<>();
            for (int kind : all) {
                parts.merge(shownBy(i, kind, now().drums.get(i).mark, t)[t - 1], 1, Integer::sum);
            }
            int greatest = java.util.Collections.max(parts.values());
            if (greatest < least) {
                least = greatest;
                best = t;
            }
        }
        asked = least;
        return best;
    }

    // ---- by turns, chances, lots

    private static int duel(State s, int left, boolean late) {
        if (left == 0) return s.end();
        int best = late ? -1 : 99;
        for (int i = 0; i < s.drums.size(); i++) {
            for (int f = 0; f < 10; f++) {
                int value = duel(s.aimed(i, f), left - 1, !late);
                best = late ? Math.max(best, value) : Math.min(best, value);
            }
        }
        return best;
    }

    int duel(int n) {
        if (!in(n, 0, 2)) return BAD;
        return none() ? STATE : duel(now(), n, true);
    }

    /** Goes through the drums one by one, each jamming or not; what is left at the end is told by need. */
    private BigInteger weigh(State s, int i, int n, int p, int need) {
        if (i == s.drums.size()) {
            int right = 0;
            for (Flap d : s.after(n).drums) right += d.shows == d.goal ? 1 : 0;
            return BigInteger.valueOf(need < 0 ? right : right >= need ? 1 : 0);
        }
        if (now().drums.get(i).jammed) return weigh(s, i + 1, n, p, need);
        State jamming = s.twin();
        jamming.drums.get(i).jammed = true;
        return weigh(jamming, i + 1, n, p, need).multiply(BigInteger.valueOf(p))
            .add(weigh(s, i + 1, n, p, need).multiply(BigInteger.valueOf(12 - p)));
    }

    private int chance(int n, int p, int need) {
        if (!in(n, 0, 20) || !in(p, 0, 12)) return BAD;
        if (none()) return STATE;
        BigInteger top = weigh(now(), 0, n, p, need);
        BigInteger bottom = BigInteger.valueOf(12).pow(now().drums.size() - Integer.bitCount(count(5)));
        BigInteger common = top.gcd(bottom);
        upper = top.divide(common);
        lower = bottom.divide(common);
        return 1;
    }

    int odds(int k, int n, int p) {
        return in(k, 0, 7) ? chance(n, p, k) : BAD;
    }

    int mid(int n, int p) {
        return chance(n, p, -1);
    }

    int lots(int n, int seed) {
        if (!in(n, 1, 20) || !in(seed, 1, 2147483646)) return BAD;
        if (none()) return STATE;
        if (deedCount() + n > 40) return FULL;
        BigInteger lot = BigInteger.valueOf(seed);
        for (int k = 0; k < n; k++) {
            lot = lot.multiply(BigInteger.valueOf(48271)).mod(BigInteger.valueOf(2147483647));
            int x = lot.intValueExact();
            int i = x / 8 % now().drums.size();
            if (x % 8 == 0) {
                Flap d = deed().drums.get(i);
                d.jammed = !d.jammed;
            } else if (x % 8 < 3) {
                deed().drums.get(i).goal = x / 64 % 10;
            } else {
                past.add(now().tick == 99 ? now().twin() : now().next());
            }
        }
        return now().number();
    }

    // ---- what is told

    int asked() {
        return asked;
    }

    long upper() {
        return upper.longValueExact();
    }

    long lower() {
        return lower.longValueExact();
    }

    int count(int what) {
        int jammed = 0, right = 0, slow = 0, skip = 0, rowsThere = 0, textsThere = 0;
        List<Flap> drums = now().drums;
        for (int i = 0; i < drums.size(); i++) {
            Flap d = drums.get(i);
            jammed += d.jammed ? 1 << i : 0;
            right += d.shows == d.goal ? 1 << i : 0;
            slow += d instanceof Slow ? 1 : 0;
            skip += d instanceof Skip ? 1 : 0;
        }
        for (int[] row : rows) rowsThere += row == null ? 0 : 1;
        for (byte[] text : texts) textsThere += text == null ? 0 : 1;
        int[] all = {drums.size(), now().tick, deedCount(), now().number(), now().turns, jammed, right,
            now().power, rowsThere, textsThere, kept.size(), slow, skip};
        return in(what, 0, all.length - 1) ? all[what] : BAD;
    }

    int finding() {
        return finding;
    }

    int findings(int f) {
        return in(f, 1, 5) ? found[f] : BAD;
    }

    long digest() {
        List<Long> all = new ArrayList<>();
        for (int what = 0; what <= 12; what++) all.add((long) count(what));
        for (int i = 0; i < now().drums.size(); i++) {
            for (int what = 0; what <= 6; what++) all.add((long) fact(i, what));
        }
        for (int k = 0; k < 3; k++) all.add(kept.containsKey(k) ? kept.get(k).size() - 1L : -1L);
        for (int[] row : rows) {
            all.add(row == null ? -1L : row.length);
            if (row != null) for (int v : row) all.add((long) v);
        }
        for (byte[] text : texts) {
            all.add(text == null ? -1L : text.length);
            if (text != null) for (byte v : text) all.add((long) v);
        }
        long h = 17;
        for (long v : all) h = 31 * h + v;
        return h;
    }
}
