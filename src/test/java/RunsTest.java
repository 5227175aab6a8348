import java.util.Random;

/** Runs of random calls, compared with the plain Model answer by answer; the seeds are fixed. */
public final class RunsTest {
    private static final String[] CALLS = {
        "bath", "sign", "shut", "one", "type", "clear", "read", "goes", "minute", "undo", "of", "lane", "seconds",
        "lengths", "best", "cost", "where", "obey", "all", "changes", "order", "apart", "note", "forget", "is", "look",
        "touch", "counts", "mornings", "part", "image", "from", "status", "count", "digest"};
    private static final String[] PIECES = {
        "bath", "sign", "shut", "one", ";", ";", ";", " ", " ", "0", "1", "2", "3", "4", "5", "20", "55", "90", "91",
        "100", "bat", "X", "00", "02", "sign3 1;", "\n", "one1 60 2;",
        "one 0 45 1;", "one 3 20 0;", "shut 2;", "sign 1 2;", "shut 1;", "one 5 39 3;"};

    /** With a digest behind each tenth, and STATUS at last, these stay below the 512 calls that an object is used for. */
    private static final int MOST_TURNS = 460;

    private static final Due due = new Due();

    public static void main(String[] args) {
        for (int seed = 0; seed < 400; seed++) {
            run(new Random(seed), seed);
        }
        for (int seed = 0; seed < 3000; seed++) {
            text(new Random(seed), seed);
        }
        for (int seed = 0; seed < 40; seed++) {
            sevenInOneLane(new Random(seed), seed);
        }
        due.end("RunsTest");
    }

    private static void run(Random r, int seed) {
        SwimLanes x = new SwimLanes();
        Model model = new Model();
        int most = 1 + r.nextInt(7);
        for (int i = 0; i < most; i++) {
            compare(x, model, seed, "one", r.nextInt(6), 20 + r.nextInt(71), r.nextInt(4));
        }
        for (int i = most; i < MOST_TURNS; i++) {
            String name = CALLS[r.nextInt(CALLS.length)];
            boolean dear = name.equals("all") && model.call("count", 0) > 5 || name.equals("bath");
            if (!dear || r.nextInt(8) == 0) {
                compare(x, model, seed, name, wild(r, arguments(r, name)));
            }
            if (i % 10 == 0) {
                compare(x, model, seed, "digest");
            }
        }
        for (int what = 0; what < 3; what++) {
            compare(x, model, seed, "status", what);
        }
    }

    private static int[] arguments(Random r, String name) {
        int p = r.nextInt(9) - 1;
        int l = r.nextInt(10) == 0 ? r.nextInt(6) - 1 : r.nextInt(4);
        switch (name) {
            case "sign": return new int[] {l, r.nextInt(5) - 1};
            case "shut": return new int[] {l, r.nextInt(12) == 0 ? 2 : r.nextInt(2)};
            case "one": return new int[] {r.nextInt(8) - 1, 18 + r.nextInt(75), l};
            case "type": return new int[] {r.nextInt(130) - 1};
            case "minute": return new int[] {r.nextInt(63)};
            case "lengths": return new int[] {p, r.nextInt(63) - 1};
            case "goes": case "cost": return new int[] {p, l};
            case "of": return new int[] {p, r.nextInt(8) - 1};
            case "lane": return new int[] {l, r.nextInt(5) - 1};
            case "seconds": return new int[] {p, l, r.nextInt(20) == 0 ? 3 : r.nextInt(3)};
            case "best": case "where": case "look": return new int[] {p};
            case "all": case "changes": return new int[] {r.nextInt(10) - 2};
            case "order": return new int[] {l, r.nextInt(62), r.nextInt(11), r.nextInt(7) - 2};
            case "apart": return new int[] {l, r.nextInt(11)};
            case "note": return note(r, p);
            case "is": return new int[] {p, r.nextInt(12) == 0 ? 2 : r.nextInt(2)};
            case "touch": return new int[] {p, r.nextInt(8)};
            case "counts": return new int[] {r.nextInt(11), r.nextInt(11), r.nextInt(12)};
            case "mornings": return new int[] {r.nextInt(1000010) - 5, r.nextInt(63) - 1};
            case "obey": case "part": case "image": case "from": case "status": return new int[] {r.nextInt(4) - 1};
            case "count": return new int[] {r.nextInt(9) - 1};
            default: return new int[0];
        }
    }

    private static final int[] WILD = {Integer.MIN_VALUE, Integer.MAX_VALUE, -1, -2, 0, 1, 32, 64, 256, 65536, 1 << 30};

    private static int[] wild(Random r, int[] a) {
        if (a.length > 0 && r.nextInt(25) == 0) {
            a[r.nextInt(a.length)] = WILD[r.nextInt(WILD.length)];
        }
        return a;
    }

    private static int[] note(Random r, int p) {
        return new int[] {p, r.nextInt(203), r.nextInt(93) - 1, r.nextInt(8), r.nextInt(8)};
    }

    private static void text(Random r, int seed) {
        SwimLanes x = new SwimLanes();
        Model model = new Model();
        StringBuilder text = new StringBuilder(r.nextInt(10) == 0 ? "" : "bath;");
        for (int i = r.nextInt(12); i > 0; i--) {
            text.append(PIECES[r.nextInt(PIECES.length)]);
        }
        if (r.nextBoolean()) {
            text.append(r.nextBoolean() ? "one" : "").append(" 1 66 0;one 2 77 1;");
        }
        for (int i = 0; i < text.length(); i++) {
            compare(x, model, seed, "type", text.charAt(i));
        }
        compare(x, model, seed, "read");
        compare(x, model, seed, "digest");
        compare(x, model, seed, "minute", 7);
    }

    private static void sevenInOneLane(Random r, int seed) {
        SwimLanes x = new SwimLanes();
        Model model = new Model();
        for (int p = 0; p < 7; p++) {
            compare(x, model, seed, "one", r.nextInt(6), 20 + r.nextInt(seed % 2 == 0 ? 71 : 20), 0);
        }
        for (int i = 0; i < 4; i++) {
            int g = r.nextInt(61);
            int n = 1 + r.nextInt(4);
            for (int at = -1; at <= 7; at++) {
                compare(x, model, seed, "order", 0, g, n, at);
            }
        }
        for (int p = -1; p < 7; p++) {
            compare(x, model, seed, "changes", p);
            compare(x, model, seed, "all", p);
        }
    }

    private static void compare(SwimLanes x, Model model, int seed, String name, int... a) {
        StringBuilder what = new StringBuilder().append("seed ").append(seed).append(": ").append(name);
        for (int v : a) {
            what.append(' ').append(v);
        }
        due.is(what.toString(), call(x, name, a), model.call(name, a));
    }

    private static long call(SwimLanes x, String name, int... a) {
        switch (name) {
            case "bath": return x.bath();
            case "sign": return x.sign(a[0], a[1]);
            case "shut": return x.shut(a[0], a[1]);
            case "one": return x.one(a[0], a[1], a[2]);
            case "type": return x.type(a[0]);
            case "clear": return x.clear();
            case "read": return x.read();
            case "goes": return x.goes(a[0], a[1]);
            case "minute": return x.minute(a[0]);
            case "undo": return x.undo();
            case "of": return x.of(a[0], a[1]);
            case "lane": return x.lane(a[0], a[1]);
            case "seconds": return x.seconds(a[0], a[1], a[2]);
            case "lengths": return x.lengths(a[0], a[1]);
            case "best": return x.best(a[0]);
            case "cost": return x.cost(a[0], a[1]);
            case "where": return x.where(a[0]);
            case "obey": return x.obey(a[0]);
            default: return callMore(x, name, a);
        }
    }

    private static long callMore(SwimLanes x, String name, int... a) {
        switch (name) {
            case "all": return x.all(a[0]);
            case "changes": return x.changes(a[0]);
            case "order": return x.order(a[0], a[1], a[2], a[3]);
            case "apart": return x.apart(a[0], a[1]);
            case "note": return x.note(a[0], a[1], a[2], a[3], a[4]);
            case "forget": return x.forget();
            case "is": return x.is(a[0], a[1]);
            case "look": return x.look(a[0]);
            case "touch": return x.touch(a[0], a[1]);
            case "counts": return x.counts(a[0], a[1], a[2]);
            case "mornings": return x.mornings(a[0], a[1]);
            case "part": return x.part(a[0]);
            case "image": return x.image(a[0]);
            case "from": return x.from(a[0]);
            case "status": return x.status(a[0]);
            case "count": return x.count(a[0]);
            case "digest": return x.digest();
            default: throw new IllegalArgumentException(name);
        }
    }
}
