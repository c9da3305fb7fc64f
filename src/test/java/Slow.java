import java.util.ArrayList;
import java.util.HashMap;
import java.util.HashSet;
import java.util.List;
import java.util.Map;
import java.util.Set;
import java.util.TreeSet;
import java.util.regex.Matcher;
import java.util.regex.Pattern;

/**
 * The document once more, by trying all there is, beat by beat and round by round. It shares no
 * way of working with SpadeRings, so that both are hardly wrong alike. For small gangs alone.
 */
final class Slow {
    private static final int BAD = -1, STATE = -2, FULL = -3, NONE = -9, NO = -1000000;
    private static final Pattern TOKEN = Pattern.compile("[a-z]+|[0-9]+|;|[^ ]");

    private static final class State {
        int round, beats, earth;
        Set<String> threw = new HashSet<>();
        Map<Integer, Integer> inRound = new HashMap<>();
        int[] out = new int[8];
        Set<Integer> broken = new TreeSet<>();

        State copy() {
            State s = new State();
            s.round = round;
            s.beats = beats;
            s.earth = earth;
            s.threw.addAll(threw);
            s.inRound.putAll(inRound);
            s.out = out.clone();
            s.broken.addAll(broken);
            return s;
        }
    }

    /** A text that can't be read on: where. */
    private static final class Fault extends RuntimeException {
        private static final long serialVersionUID = 1;
        final int place;

        Fault(int place) {
            this.place = place;
        }
    }

    private final StringBuilder text = new StringBuilder();
    private List<int[]> diggers = new ArrayList<>();
    private List<int[]> spades = new ArrayList<>();
    private List<int[]> yards = new ArrayList<>();
    private State state = new State();
    private final State[] images = new State[2];
    private final List<int[]> holes = new ArrayList<>();
    private final List<int[]> told = new ArrayList<>();
    private long trace;

    int type(long v, int n) {
        if (n < 1 || n > 8) {
            return BAD;
        }
        if (text.length() + n > 300) {
            return FULL;
        }
        for (int i = 8 - n; i < 8; i++) {
            text.append((char) (v << 8 * i >>> 56));
        }
        return text.length();
    }

    int clear() {
        int n = text.length();
        text.setLength(0);
        return n;
    }

    int gang() {
        List<List<int[]>> read = List.of(new ArrayList<>(), new ArrayList<>(), new ArrayList<>());
        try {
            read(read);
        } catch (Fault fault) {
            return -10 - fault.place;
        }
        diggers = read.get(0);
        spades = read.get(1);
        yards = read.get(2);
        state = new State();
        images[0] = images[1] = null;
        told.clear();
        clear();
        return diggers.size() + spades.size() + yards.size();
    }

    private void read(List<List<int[]>> read) {
        List<String> tokens = new ArrayList<>();
        List<Integer> places = new ArrayList<>();
        Matcher m = TOKEN.matcher(text);
        while (m.find()) {
            tokens.add(m.group());
            places.add(m.start());
        }
        tokens.add("");
        places.add(text.length());
        int at = 0;
        while (!tokens.get(at).isEmpty()) {
            int kind = List.of("digger", "spade", "yard").indexOf(tokens.get(at));
            if (kind < 0 || read.get(kind).size() == (kind == 0 ? 6 : 8)) {
                throw new Fault(places.get(at));
            }
            at++;
            int[] item = {0, 0, 0};
            int numbers = kind == 1 ? 1 : 2;
            for (int i = 0; i < numbers; i++, at++) {
                String most = kind == 2 && i == 0 ? "[1-9][0-9]?" : "[1-9]";
                if (!tokens.get(at).matches(most)) {
                    throw new Fault(places.get(at));
                }
                item[i] = Integer.parseInt(tokens.get(at));
            }
            if (kind == 0 && tokens.get(at).equals("left")) {
                item[2] = 1;
                at++;
            } else if (kind == 1 && tokens.get(at).matches("right|left")) {
                item[1] = tokens.get(at).equals("right") ? 1 : 2;
                at++;
            }
            if (!tokens.get(at).equals(";")) {
                throw new Fault(places.get(at));
            }
            at++;
            read.get(kind).add(item);
        }
    }

    private static boolean in(int n, int least, int most) {
        return least <= n && n <= most;
    }

    private boolean noDigger(int d) {
        return !in(d, 0, diggers.size() - 1);
    }

    private boolean noSpade(int s) {
        return !in(s, 0, spades.size() - 1);
    }

    private int threwBits(int d) {
        int bits = 0;
        for (int s = 0; s < 8; s++) {
            bits += state.threw.contains(d + " " + s) ? 1 << s : 0;
        }
        return bits;
    }

    int digger(int d, int what) {
        if (noDigger(d) || !in(what, 0, 3)) {
            return BAD;
        }
        return what == 3 ? threwBits(d) : diggers.get(d)[what];
    }

    int spade(int s, int what) {
        if (noSpade(s) || !in(what, 0, 2)) {
            return BAD;
        }
        return what == 2 ? state.broken.contains(s) ? 1 : 0 : spades.get(s)[what];
    }

    int yard(int y, int what) {
        if (!in(y, 0, yards.size() - 1) || !in(what, 0, 2)) {
            return BAD;
        }
        return what == 2 ? state.out[y] : yards.get(y)[what];
    }

    private boolean allowed(int d, int s) {
        int whom = spades.get(s)[1];
        boolean hand = whom == 0 || whom == 1 && diggers.get(d)[2] == 0 || whom == 2 && diggers.get(d)[2] == 1;
        return hand && !state.broken.contains(s) && !state.threw.contains(d + " " + s);
    }

    int may(int d, int s) {
        return noDigger(d) || noSpade(s) ? BAD : allowed(d, s) ? 1 : 0;
    }

    private int yardDug() {
        int y = 0;
        while (y < yards.size() && state.out[y] == yards.get(y)[0]) {
            y++;
        }
        return y;
    }

    int throwWith(int d, int s) {
        if (noDigger(d) || noSpade(s)) {
            return BAD;
        }
        if (!allowed(d, s) || state.inRound.containsKey(d) || state.inRound.containsValue(s)) {
            return STATE;
        }
        int y = yardDug();
        int by = y < yards.size() ? yards.get(y)[1] : 1;
        int earth = Math.max(diggers.get(d)[0] * spades.get(s)[0] / by, 1);
        state.inRound.put(d, s);
        state.threw.add(d + " " + s);
        for (int clod = 0; clod < earth && y < yards.size() && state.out[y] < yards.get(y)[0]; clod++) {
            state.out[y]++;
            state.earth++;
        }
        return earth;
    }

    int ends() {
        int slow = 0;
        for (int d : state.inRound.keySet()) {
            slow = Math.max(slow, diggers.get(d)[1]);
        }
        state.inRound.clear();
        state.round++;
        state.beats += slow;
        return slow;
    }

    int breaks(int s) {
        return noSpade(s) ? BAD : state.broken.add(s) ? 1 : 0;
    }

    int now(int what) {
        int bits = 0;
        switch (what) {
            case 0: return state.round;
            case 1: return state.beats;
            case 2: return state.earth;
            case 3: return yardDug();
            case 4:
                for (int d : state.inRound.keySet()) {
                    bits |= 1 << d;
                }
                return bits;
            case 5:
                for (int s : state.inRound.values()) {
                    bits |= 1 << s;
                }
                return bits;
            default: return BAD;
        }
    }

    int anew() {
        int round = state.round;
        state = new State();
        return round;
    }

    /** All rows for the next round, the first of them first; who may throw with what as bits. */
    private static void rows(int[] open, int d, int used, int[] row, List<int[]> found) {
        if (d == open.length) {
            found.add(row.clone());
            return;
        }
        for (int s = 0; s < 8; s++) {
            if ((open[d] >> s & 1) != 0 && (used >> s & 1) == 0) {
                row[d] = s;
                rows(open, d + 1, used | 1 << s, row, found);
            }
        }
    }

    private static int roundsFrom(int[] open, Map<String, Integer> seen, int[] best) {
        String key = java.util.Arrays.toString(open);
        if (best == null && seen.containsKey(key)) {
            return seen.get(key);
        }
        List<int[]> rows = new ArrayList<>();
        rows(open, 0, 0, new int[open.length], rows);
        int most = 0;
        for (int[] row : rows) {
            int[] behind = open.clone();
            for (int d = 0; d < row.length; d++) {
                behind[d] &= ~(1 << row[d]);
            }
            int rounds = 1 + roundsFrom(behind, seen, null);
            if (rounds > most) {
                most = rounds;
                if (best != null) {
                    System.arraycopy(row, 0, best, 0, row.length);
                }
            }
        }
        seen.put(key, most);
        return most;
    }

    private int[] open() {
        int[] open = new int[diggers.size()];
        for (int d = 0; d < open.length; d++) {
            for (int s = 0; s < spades.size(); s++) {
                open[d] |= allowed(d, s) ? 1 << s : 0;
            }
        }
        return open;
    }

    int longest() {
        return diggers.isEmpty() ? 0 : roundsFrom(open(), new HashMap<>(), null);
    }

    int begins(int d) {
        if (noDigger(d)) {
            return BAD;
        }
        int[] best = new int[diggers.size()];
        return roundsFrom(open(), new HashMap<>(), best) == 0 ? NONE : best[d];
    }

    int most(int r) {
        if (!in(r, 1, 6)) {
            return BAD;
        }
        return mostFrom(open(), r, 0, 0, new HashMap<>());
    }

    /** Round by round, digger by digger: none, or one of the spades that are left. */
    private int mostFrom(int[] open, int r, int d, int used, Map<String, Integer> seen) {
        if (r == 0) {
            return 0;
        }
        if (d == open.length) {
            return mostFrom(open, r - 1, 0, 0, seen);
        }
        String key = r + " " + d + " " + used + java.util.Arrays.toString(open);
        Integer known = seen.get(key);
        if (known != null) {
            return known;
        }
        int most = mostFrom(open, r, d + 1, used, seen);
        for (int s = 0; s < 8; s++) {
            if ((open[d] >> s & 1) != 0 && (used >> s & 1) == 0) {
                open[d] ^= 1 << s;
                int gain = diggers.get(d)[0] * spades.get(s)[0];
                most = Math.max(most, gain + mostFrom(open, r, d + 1, used | 1 << s, seen));
                open[d] ^= 1 << s;
            }
        }
        seen.put(key, most);
        return most;
    }

    int rings(int g, int t, int what) {
        if (!in(g, 1, 3) || !in(t, 1, 999) || !in(what, 0, diggers.size())) {
            return BAD;
        }
        int n = diggers.size();
        int best = -1;
        int[] first = null;
        for (int code = 0; code < Math.pow(g, n); code++) {
            int[] ring = new int[3];
            for (int d = 0, rest = code; d < n; d++, rest /= g) {
                ring[rest % g] |= 1 << d;
            }
            int sum = 0;
            for (int one : ring) {
                sum += ringDigs(one, t);
            }
            int[] order = inOrder(ring, n);
            if (sum > best || sum == best && before(order, first)) {
                best = sum;
                first = order;
            }
        }
        return what == 0 ? Math.max(best, 0) : ringWith(first, what - 1);
    }

    private int ringDigs(int ring, int t) {
        int slow = 0;
        int strong = 0;
        for (int d = 0; d < diggers.size(); d++) {
            if ((ring >> d & 1) != 0) {
                slow = Math.max(slow, diggers.get(d)[1]);
                strong += diggers.get(d)[0];
            }
        }
        return ring == 0 ? 0 : t / slow * strong;
    }

    private static int ringWith(int[] rings, int d) {
        for (int ring : rings) {
            if ((ring >> d & 1) != 0) {
                return ring;
            }
        }
        return 0;
    }

    private static int[] inOrder(int[] ring, int n) {
        List<Integer> order = new ArrayList<>();
        for (int d = 0; d < n; d++) {
            int with = ringWith(ring, d);
            if (!order.contains(with)) {
                order.add(with);
            }
        }
        return order.stream().mapToInt(Integer::intValue).toArray();
    }

    private static boolean before(int[] one, int[] other) {
        return java.util.Arrays.compare(one, other) < 0;
    }

    int meeting(int a, int p, int b, int q, int what) {
        if (!in(a, 1, 99) || !in(p, 1, 99) || !in(b, 1, 99) || !in(q, 1, 99) || !in(what, 0, 2)) {
            return BAD;
        }
        List<Integer> clods = new ArrayList<>();
        for (int y = 0; y < yards.size(); y++) {
            for (int i = 0; i < yards.get(y)[0] * yards.get(y)[1]; i++) {
                clods.add(y);
            }
        }
        if (clods.isEmpty()) {
            return NONE;
        }
        int dug = 0;
        int front = 0;
        int back = clods.size();
        for (int beat = 1;; beat++) {
            for (int i = 0; i < a && beat % p == 0; i++) {
                int y = clods.get(front++);
                dug++;
                if (front == back) {
                    return what == 0 ? beat : what == 1 ? y : dug;
                }
            }
            for (int i = 0; i < b && beat % q == 0; i++) {
                int y = clods.get(--back);
                if (front == back) {
                    return what == 0 ? beat : what == 1 ? y : dug;
                }
            }
        }
    }

    int songs(int p, int a, int q, int b) {
        if (!in(p, 1, 99) || !in(a, 0, 999) || !in(q, 1, 99) || !in(b, 0, 999)) {
            return BAD;
        }
        for (int beat = Math.max(a, b); beat < 20000; beat++) {
            if ((beat - a) % p == 0 && (beat - b) % q == 0) {
                return beat;
            }
        }
        return NONE;
    }

    int hole(int t, int c, int u) {
        if (!in(t, 0, 99) || !in(c, 1, 99) || !in(u, t, 200)) {
            return BAD;
        }
        if (holes.size() == 8) {
            return FULL;
        }
        holes.add(new int[] {t, c, u});
        return holes.size();
    }

    int night(int q) {
        if (!in(q, 1, 99)) {
            return BAD;
        }
        int[] left = new int[holes.size()];
        for (int i = 0; i < left.length; i++) {
            left[i] = holes.get(i)[1];
        }
        for (int beat = 0; beat <= 200; beat++) {
            for (int clod = 0; clod < q; clod++) {
                int next = -1;
                for (int i = 0; i < left.length; i++) {
                    int[] h = holes.get(i);
                    if (left[i] > 0 && h[0] <= beat && beat < h[2] && (next < 0 || h[2] < holes.get(next)[2])) {
                        next = i;
                    }
                }
                if (next >= 0) {
                    left[next]--;
                }
            }
        }
        for (int one : left) {
            if (one > 0) {
                return 0;
            }
        }
        return 1;
    }

    int least() {
        for (int q = 1; q <= 99; q++) {
            if (night(q) == 1) {
                return q;
            }
        }
        return NONE;
    }

    int dry() {
        int n = holes.size();
        holes.clear();
        return n;
    }

    int tell(int r, int d, int s) {
        if (!in(r, 0, 99) || noDigger(d) || noSpade(s)) {
            return BAD;
        }
        if (told.size() == 30) {
            return FULL;
        }
        told.add(new int[] {r, d, s});
        return told.size();
    }

    int cheats(int what) {
        if (!in(what, 0, 1)) {
            return BAD;
        }
        int bits = 0;
        Set<Integer> rounds = new HashSet<>();
        for (int i = 0; i < told.size(); i++) {
            for (int j = 0; j < i; j++) {
                int[] one = told.get(i);
                int[] other = told.get(j);
                if (one[1] == other[1] && one[2] == other[2]) {
                    bits |= 1 << one[1];
                }
                if (one[0] == other[0] && (one[1] == other[1]) != (one[2] == other[2])) {
                    rounds.add(one[0]);
                }
            }
        }
        return what == 0 ? bits : rounds.size();
    }

    private class Person {
        int mark(int d) {
            trace += 1;
            return diggers.get(d)[0];
        }
    }

    private class Digger extends Person {
        int mark(int d) {
            trace += 10;
            return super.mark(d) + Integer.bitCount(threwBits(d));
        }
    }

    private class Singer extends Person {
        int mark(int d) {
            trace += 100;
            return super.mark(d) + state.round;
        }
    }

    private class Left extends Digger {
        int mark(int d) {
            trace += 1000;
            return super.mark(d) * 2;
        }
    }

    private class Prophet extends Singer {
        int mark(int d) {
            trace += 10000;
            return super.mark(d) - state.broken.size();
        }
    }

    private class Sluggish extends Person {
        int mark(int d) {
            trace += 100000;
            return super.mark(d) - diggers.get(d)[1];
        }
    }

    int mark(int kind, int d) {
        if (!in(kind, 0, 5) || noDigger(d)) {
            return NO;
        }
        return List.of(new Person(), new Digger(), new Singer(), new Left(), new Prophet(), new Sluggish())
                .get(kind).mark(d);
    }

    int keep(int image) {
        if (!in(image, 0, 1)) {
            return BAD;
        }
        images[image] = state.copy();
        return state.round;
    }

    int back(int image) {
        if (!in(image, 0, 1)) {
            return BAD;
        }
        if (images[image] == null) {
            return STATE;
        }
        state = images[image].copy();
        return state.round;
    }

    int count(int what) {
        return in(what, 0, 5)
                ? new int[] {diggers.size(), spades.size(), yards.size(), holes.size(), told.size(), text.length()}[what]
                : BAD;
    }

    long trace() {
        return trace;
    }
}
