import java.math.BigInteger;
import java.util.ArrayList;
import java.util.Arrays;
import java.util.List;
import java.util.regex.Matcher;
import java.util.regex.Pattern;

/**
 * The document once more, as slow and as plain as can be: every way tried, every state copied. It only answers
 * calls by their names, so that random runs of calls can be compared.
 */
final class Model {
    static final class Swimmer {
        int kind, pace, lane, lengths, left;

        Swimmer(int kind, int pace, int lane) {
            this.kind = kind;
            this.pace = pace;
            this.lane = lane;
        }

        Swimmer copy() {
            Swimmer s = new Swimmer(kind, pace, lane);
            s.lengths = lengths;
            s.left = left;
            return s;
        }
    }

    static final class State {
        int[] sign = {0, 1, 1, 2};
        boolean[] shut = new boolean[4];
        List<Swimmer> swimmers = new ArrayList<>();
        int minute;
        List<int[]> notes = new ArrayList<>();
        List<State> undo = new ArrayList<>();

        State copy() {
            State s = new State();
            s.sign = sign.clone();
            s.shut = shut.clone();
            for (Swimmer w : swimmers) {
                s.swimmers.add(w.copy());
            }
            s.minute = minute;
            s.notes = new ArrayList<>(notes);
            s.undo = new ArrayList<>(undo);
            return s;
        }
    }

    private State now = new State();
    private final State[] images = new State[2];
    private String text = "";
    private BigInteger above = BigInteger.ZERO;
    private BigInteger below = BigInteger.ONE;
    private final int[] refused = new int[3];

    long call(String name, int... a) {
        switch (name) {
            case "bath": {
                int were = now.swimmers.size();
                now = new State();
                return were;
            }
            case "sign": return sign(a[0], a[1]);
            case "shut": return shut(a[0], a[1]);
            case "one": return one(a[0], a[1], a[2]);
            case "type":
                if (a[0] < 0 || a[0] > 127) return refuse(-2);
                if (text.length() == 150) return refuse(-4);
                text += (char) a[0];
                return text.length();
            case "clear": {
                int had = text.length();
                text = "";
                return had;
            }
            case "read": return read();
            case "goes":
                if (!one(a[0]) || !lane(a[1])) return refuse(-2);
                if (now.shut[a[1]]) return refuse(-3);
                keep();
                int was = now.swimmers.get(a[0]).lane;
                now.swimmers.get(a[0]).lane = a[1];
                return was;
            case "minute": {
                if (a[0] < 1 || a[0] > 60) return refuse(-2);
                keep();
                int sum = 0;
                for (int i = 0; i < a[0]; i++) sum += minute(now, false);
                return sum;
            }
            case "undo": return undo();
            case "of": return of(a[0], a[1]);
            case "lane":
                if (!lane(a[0]) || a[1] < 0 || a[1] > 2) return refuse(-2);
                if (a[1] == 2) return bits(now, a[0]);
                return a[1] == 0 ? now.sign[a[0]] : now.shut[a[0]] ? 1 : 0;
            default: return call2(name, a);
        }
    }

    private long call2(String name, int... a) {
        switch (name) {
            case "seconds":
                if (!one(a[0]) || !lane(a[1]) || a[2] < 0 || a[2] > 2) return refuse(-2);
                int[] crowd = crowd(now, a[0], a[1]);
                return a[2] == 0 ? seconds(now, a[0], a[1]) : a[2] == 1 ? crowd[1] : crowd[2];
            case "lengths": {
                if (!one(a[0]) || a[1] < 0 || a[1] > 60) return refuse(-2);
                State s = now.copy();
                for (int i = 0; i < a[1]; i++) minute(s, true);
                return s.swimmers.get(a[0]).lengths;
            }
            case "best": return one(a[0]) ? best(now, a[0]) : refuse(-2);
            case "cost":
                if (!one(a[0]) || !lane(a[1])) return refuse(-2);
                return now.shut[a[1]] ? refuse(-3) : cost(a[0], a[1]);
            case "where": {
                if (!one(a[0])) return refuse(-2);
                int least = -1;
                for (int l = 3; l >= 0; l--) {
                    if (!now.shut[l] && (least < 0 || cost(a[0], l) <= cost(a[0], least))) least = l;
                }
                return least;
            }
            case "obey": {
                if (a[0] < 0 || a[0] > 1) return refuse(-2);
                int obeying = 0;
                for (int p = 0; p < now.swimmers.size(); p++) {
                    Swimmer w = now.swimmers.get(p);
                    int pace = a[0] == 0 ? w.pace : believes(w);
                    int sign = pace >= 60 ? 0 : pace < 40 ? 2 : 1;
                    obeying += now.sign[w.lane] == sign ? 1 << p : 0;
                }
                return obeying;
            }
            case "all": return a[0] != -1 && !one(a[0]) ? tenth() : all(a[0]);
            case "changes": return a[0] != -1 && !one(a[0]) ? tenth() : changes(a[0]);
            case "order":
                if (!lane(a[0]) || a[1] < 0 || a[1] > 60 || a[2] < 1 || a[2] > 9 || a[3] < -1) return tenth();
                return order(a[0], a[1], a[2], a[3]);
            case "apart": {
                if (!lane(a[0]) || a[1] < 1 || a[1] > 9) return refuse(-2);
                List<Integer> in = in(a[0]);
                for (int g = 0; g <= 600; g++) {
                    if (stands(in, g, a[1])) return g;
                }
                return -1;
            }
            default: return call3(name, a);
        }
    }

    private long call3(String name, int... a) {
        switch (name) {
            case "note":
                if (!one(a[0]) || a[1] < 1 || a[1] > 200 || a[2] < 0 || a[2] > 90 || a[3] < 0 || a[3] > 6
                    || a[4] < 0 || a[4] > 6) return refuse(-2);
                if (now.notes.size() == 6) return refuse(-4);
                now.notes.add(a.clone());
                return now.notes.size();
            case "forget": {
                int had = now.notes.size();
                now.notes.clear();
                return had;
            }
            case "is": {
                if (!one(a[0]) || a[1] < 0 || a[1] > 1) return refuse(-2);
                if (a[1] == 0) return kinds(a[0]);
                int paces = 0;
                for (int pace = 20; pace <= 90; pace++) {
                    paces += fits(a[0], now.swimmers.get(a[0]).kind, pace) ? 1 : 0;
                }
                return paces;
            }
            case "look": return one(a[0]) ? look(a[0]) : refuse(-2);
            case "touch":
                if (!one(a[0]) || !one(a[1]) || a[0] == a[1]) return refuse(-2);
                Swimmer w = now.swimmers.get(a[0]);
                Swimmer v = now.swimmers.get(a[1]);
                return w.lane != v.lane ? refuse(-3) : touch(v.pace < w.pace);
            case "counts":
                if (a[0] < 0 || a[0] > 9 || a[1] < 0 || a[1] > 9 || a[2] < 0 || a[2] > 10) return refuse(-2);
                return counts(a[0], a[1], a[2]);
            case "mornings":
                if (a[0] < 0 || a[0] > 999999 || a[1] < 0 || a[1] > 60) return refuse(-2);
                return now.swimmers.isEmpty() ? refuse(-3) : mornings(a[0], a[1]);
            case "part":
                if (a[0] < 0 || a[0] > 1) return refuse(-2);
                return (a[0] == 0 ? above : below).longValueExact();
            case "image":
                if (a[0] < 0 || a[0] > 1) return refuse(-2);
                images[a[0]] = now.copy();
                return 1;
            case "from":
                if (a[0] < 0 || a[0] > 1) return refuse(-2);
                if (images[a[0]] == null) return refuse(-3);
                now = images[a[0]].copy();
                return 1;
            case "status":
                if (a[0] < 0 || a[0] > 2) {
                    refuse(-2);
                    return -1;
                }
                return refused[a[0]];
            case "count": return a[0] < 0 || a[0] > 6 ? refuse(-2) : count(a[0]);
            case "digest": return digest();
            default: throw new IllegalArgumentException(name);
        }
    }

    private int refuse(int why) {
        refused[-2 - why]++;
        return why;
    }

    private int tenth() {
        refuse(-2);
        return -10;
    }

    private boolean one(int p) {
        return p >= 0 && p < now.swimmers.size();
    }

    private static boolean lane(int l) {
        return l >= 0 && l < 4;
    }

    private int sign(int l, int n) {
        if (!lane(l) || n < 0 || n > 2) return refuse(-2);
        int was = now.sign[l];
        now.sign[l] = n;
        return was;
    }

    private int shut(int l, int is) {
        if (!lane(l) || is < 0 || is > 1) return refuse(-2);
        if (is == 1 && bits(now, l) != 0) return refuse(-3);
        int was = now.shut[l] ? 1 : 0;
        now.shut[l] = is == 1;
        now.undo.clear();
        return was;
    }

    private int one(int kind, int pace, int l) {
        if (kind < 0 || kind > 5 || pace < 20 || pace > 90 || !lane(l)) return refuse(-2);
        if (now.shut[l]) return refuse(-3);
        if (now.swimmers.size() == 7) return refuse(-4);
        now.swimmers.add(new Swimmer(kind, pace, l));
        now.undo.clear();
        return now.swimmers.size() - 1;
    }

    private void keep() {
        State s = now.copy();
        s.undo.clear();
        now.undo.add(s);
        if (now.undo.size() > 8) {
            now.undo.remove(0);
        }
    }

    private int undo() {
        if (now.undo.isEmpty()) return refuse(-3);
        State s = now.undo.remove(now.undo.size() - 1);
        now.minute = s.minute;
        for (int p = 0; p < now.swimmers.size(); p++) {
            now.swimmers.set(p, s.swimmers.get(p).copy());
        }
        return now.minute;
    }

    private int of(int p, int what) {
        if (!one(p) || what < 0 || what > 5) return refuse(-2);
        Swimmer w = now.swimmers.get(p);
        return new int[] {w.kind, w.pace, w.lane, w.lengths, w.left, believes(w)}[what];
    }

    private static int believes(Swimmer w) {
        return w.pace - new int[] {0, 0, 15, 0, 15, 5}[w.kind];
    }

    private static int bits(State s, int l) {
        int bits = 0;
        for (int p = 0; p < s.swimmers.size(); p++) {
            bits |= s.swimmers.get(p).lane == l ? 1 << p : 0;
        }
        return bits;
    }

    private static int[] crowd(State s, int p, int l) {
        int[] crowd = new int[3];
        for (int q = 0; q < s.swimmers.size(); q++) {
            Swimmer w = s.swimmers.get(q);
            if (q != p && w.lane == l) {
                crowd[0] = Math.max(crowd[0], w.pace);
                crowd[1] += w.pace > s.swimmers.get(p).pace ? 1 : 0;
                crowd[2]++;
            }
        }
        return crowd;
    }

    private static int seconds(int kind, int p, int s, int n, int m) {
        int plain = (s > p ? s : p) + m;
        return new int[] {plain, p + 3 * n, plain, p, m >= 1 ? plain + 5 : plain, p + 3 * n / 2}[kind];
    }

    private static int seconds(State s, int p, int l) {
        int[] crowd = crowd(s, p, l);
        Swimmer w = s.swimmers.get(p);
        return seconds(w.kind, w.pace, crowd[0], crowd[1], crowd[2]);
    }

    private static int minute(State s, boolean beyond) {
        if (s.minute >= 999 && !beyond) return 0;
        s.minute++;
        int sum = 0;
        for (int p = 0; p < s.swimmers.size(); p++) {
            Swimmer w = s.swimmers.get(p);
            int each = seconds(s, p, w.lane);
            for (w.left += 60; w.left >= each; w.left -= each) {
                w.lengths++;
                sum++;
            }
        }
        return sum;
    }

    private static int best(State s, int p) {
        int best = -1;
        for (int l = 3; l >= 0; l--) {
            if (!s.shut[l] && (best < 0 || seconds(s, p, l) <= seconds(s, p, best))) best = l;
        }
        return best;
    }

    private static int sum(State s, int but) {
        int sum = 0;
        for (int p = 0; p < s.swimmers.size(); p++) {
            sum += p == but ? 0 : seconds(s, p, s.swimmers.get(p).lane);
        }
        return sum;
    }

    private int cost(int p, int l) {
        State with = now.copy();
        with.swimmers.get(p).lane = l;
        State without = now.copy();
        without.swimmers.get(p).lane = 9;
        return sum(with, p) - sum(without, p);
    }

    private int all(int p) {
        int n = now.swimmers.size();
        State s = now.copy();
        int least = n == 0 ? 0 : Integer.MAX_VALUE;
        int[] first = new int[7];
        for (int way = 0; way < 1 << 2 * n && n > 0; way++) {
            boolean open = true;
            for (int q = 0; q < n; q++) {
                int l = way >> 2 * (n - 1 - q) & 3;
                s.swimmers.get(q).lane = l;
                open &= !now.shut[l];
            }
            int sum = open ? sum(s, -1) : Integer.MAX_VALUE;
            if (sum < least) {
                least = sum;
                for (int q = 0; q < n; q++) first[q] = s.swimmers.get(q).lane;
            }
        }
        return p == -1 ? least : first[p];
    }

    private int changes(int p) {
        State s = now.copy();
        int changes = 0;
        boolean would = true;
        while (would) {
            would = false;
            for (int q = 0; q < s.swimmers.size() && changes < 60; q++) {
                int best = best(s, q);
                Swimmer w = s.swimmers.get(q);
                if (seconds(s, q, best) < seconds(s, q, w.lane)) {
                    w.lane = best;
                    changes++;
                    would = true;
                }
            }
        }
        return p == -1 ? changes : s.swimmers.get(p).lane;
    }

    private List<Integer> in(int l) {
        List<Integer> in = new ArrayList<>();
        for (int p = 0; p < now.swimmers.size(); p++) {
            if (now.swimmers.get(p).lane == l) in.add(p);
        }
        return in;
    }

    private boolean stands(List<Integer> order, int g, int n) {
        for (int j = 1; j < order.size(); j++) {
            int ahead = (j - 1) * g + n * now.swimmers.get(order.get(j - 1)).pace;
            int behind = j * g + n * now.swimmers.get(order.get(j)).pace;
            if (behind < ahead) return false;
        }
        return true;
    }

    private int order(int l, int g, int n, int i) {
        List<List<Integer>> standing = new ArrayList<>();
        permute(in(l), new ArrayList<>(), g, n, standing);
        if (i == -1) return standing.size();
        if (i >= in(l).size()) return -5;
        return standing.isEmpty() ? -1 : standing.get(0).get(i);
    }

    private void permute(List<Integer> left, List<Integer> begun, int g, int n, List<List<Integer>> standing) {
        if (left.isEmpty()) {
            if (stands(begun, g, n)) standing.add(new ArrayList<>(begun));
            return;
        }
        for (int j = 0; j < left.size(); j++) {
            List<Integer> rest = new ArrayList<>(left);
            begun.add(rest.remove(j));
            permute(rest, begun, g, n, standing);
            begun.remove(begun.size() - 1);
        }
    }

    private boolean fits(int p, int kind, int pace) {
        for (int[] note : now.notes) {
            if (note[0] == p && note[1] != seconds(kind, pace, note[2], note[3], note[4])) return false;
        }
        return true;
    }

    private int kinds(int p) {
        int kinds = 0;
        for (int k = 0; k < 6; k++) {
            kinds |= fits(p, k, now.swimmers.get(p).pace) ? 1 << k : 0;
        }
        return kinds;
    }

    private int look(int p) {
        int kinds = kinds(p);
        int look = -1;
        int fewest = 99;
        for (int l = 0; l < 4 && kinds != 0; l++) {
            int[] times = new int[300];
            int[] crowd = crowd(now, p, l);
            for (int k = 0; k < 6; k++) {
                if ((kinds >> k & 1) == 1) {
                    times[seconds(k, now.swimmers.get(p).pace, crowd[0], crowd[1], crowd[2])]++;
                }
            }
            int most = Arrays.stream(times).max().getAsInt();
            if (!now.shut[l] && most < fewest) {
                fewest = most;
                look = l;
            }
        }
        return look;
    }

    private static int touch(boolean quicker) {
        int[] a = {0, -1, 2, 1};
        int[] b = {1, quicker ? 1 : -1, 0, 0};
        int bits = 0;
        for (int pair = 0; pair < 4; pair++) {
            if (a[pair] >= a[pair ^ 1] && b[pair] >= b[pair ^ 2]) bits |= 1 << pair;
        }
        return bits;
    }

    private int counts(int n, int k, int c) {
        BigInteger sum = BigInteger.ZERO;
        for (int lost = 0; lost < 1 << n; lost++) {
            int counted = n - Integer.bitCount(lost);
            if (counted >= k) {
                sum = sum.add(BigInteger.valueOf(c).pow(n - counted).multiply(BigInteger.valueOf(10 - c).pow(counted)));
            }
        }
        BigInteger whole = BigInteger.TEN.pow(n);
        BigInteger common = sum.gcd(whole);
        above = sum.divide(common);
        below = whole.divide(common);
        return 1;
    }

    private int mornings(int seed, int n) {
        State s = now.copy();
        BigInteger x = BigInteger.valueOf(seed);
        int sum = 0;
        for (int i = 0; i < n; i++) {
            int[] drawn = new int[2];
            for (int j = 0; j < 2; j++) {
                x = x.multiply(BigInteger.valueOf(1103515245)).add(BigInteger.valueOf(12345))
                    .mod(BigInteger.valueOf(2147483648L));
                drawn[j] = x.divide(BigInteger.valueOf(65536)).intValueExact();
            }
            if (!s.shut[drawn[1] % 4]) {
                s.swimmers.get(drawn[0] % s.swimmers.size()).lane = drawn[1] % 4;
            }
            sum += minute(s, false);
        }
        return sum;
    }

    private int count(int what) {
        switch (what) {
            case 0: return now.swimmers.size();
            case 1: return now.minute;
            case 2: {
                int open = 0;
                for (boolean shut : now.shut) open += shut ? 0 : 1;
                return open;
            }
            case 3: {
                int sum = 0;
                for (Swimmer w : now.swimmers) sum += w.lengths;
                return sum;
            }
            case 4: return now.notes.size();
            case 5: return now.undo.size();
            default: return text.length();
        }
    }

    private long digest() {
        List<Long> values = new ArrayList<>();
        for (int what = 0; what <= 6; what++) values.add((long) count(what));
        for (int l = 0; l < 4; l++) {
            values.add((long) now.sign[l]);
            values.add(now.shut[l] ? 1L : 0L);
        }
        for (Swimmer w : now.swimmers) {
            for (int v : new int[] {w.kind, w.pace, w.lane, w.lengths, w.left}) values.add((long) v);
        }
        for (int[] note : now.notes) {
            for (int v : note) values.add((long) v);
        }
        values.add(above.longValueExact());
        values.add(below.longValueExact());
        long h = 1279;
        for (long v : values) h = 31 * h + v;
        return h;
    }

    private int read() {
        Matcher tokens = Pattern.compile("[a-z]+|[0-9]+|[^ ]", Pattern.DOTALL).matcher(text);
        List<String> found = new ArrayList<>();
        List<Integer> places = new ArrayList<>();
        while (tokens.find()) {
            found.add(tokens.group());
            places.add(tokens.start());
        }
        places.add(text.length());
        Model told = new Model();
        int items = 0;
        int at = 0;
        while (at < found.size() || items == 0) {
            int end = item(told, found, at, items);
            if (end < 0) return -10 - places.get(-1 - end);
            at = end;
            items++;
        }
        now = told.now;
        return items;
    }

    /** Behind the item's end; -1 less the number of the token that can't stand there. */
    private static int item(Model told, List<String> found, int at, int items) {
        if (at >= found.size()) return -1 - at;
        String word = found.get(at);
        List<String> words = items == 0 ? List.of("bath") : List.of("sign", "shut", "one");
        if (!words.contains(word) || word.equals("one") && told.now.swimmers.size() == 7) return -1 - at;
        int wants = List.of("bath", "shut", "sign", "one").indexOf(word);
        int[] a = new int[wants];
        for (int i = 0; i < wants; i++) {
            int next = at + 1 + i;
            if (next >= found.size() || !found.get(next).matches("[0-9]{1,2}")) return -1 - next;
            a[i] = Integer.parseInt(found.get(next));
            if (!asTold(told, word, i, a[i])) return -1 - next;
        }
        int stop = at + 1 + wants;
        if (stop >= found.size() || !found.get(stop).equals(";")) return -1 - stop;
        if (word.equals("sign")) told.sign(a[0], a[1]);
        if (word.equals("shut")) told.shut(a[0], 1);
        if (word.equals("one")) told.one(a[0], a[1], a[2]);
        return stop + 1;
    }

    private static boolean asTold(Model told, String word, int i, int v) {
        switch (word + i) {
            case "sign0": return v < 4;
            case "sign1": return v < 3;
            case "shut0": return v < 4 && bits(told.now, v) == 0;
            case "one0": return v < 6;
            case "one1": return v >= 20 && v <= 90;
            default: return v < 4 && !told.now.shut[v];
        }
    }
}
