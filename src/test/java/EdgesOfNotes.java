import java.math.BigInteger;

/** Promises 24 to 30: note, forget, is, look, touch, counts, mornings. */
final class EdgesOfNotes {
    private final Edge edge;

    EdgesOfNotes(Edge edge) {
        this.edge = edge;
    }

    void run() {
        note();
        noteBad();
        noteFull();
        forget();
        isWithoutNotes();
        isEachKind();
        isAllNotes();
        paces();
        isBad();
        look();
        lookOfLikeOnes();
        lookOnlyOpen();
        lookNone();
        lookBad();
        touch();
        touchBad();
        touchNo();
        counts();
        countsEnds();
        countsBad();
        mornings();
        morningsDrawn();
        morningsOpen();
        mornings999();
        morningsBad();
        morningsNo();
    }

    private void note() {
        edge.says(24, "A NOTE: how many there are.");
        SwimLanes x = Due.bathOf(0, 45, 0);
        for (int i = 1; i <= 6; i++) {
            edge.is("note", x.note(0, 45, 0, 0, 0), i);
            edge.is("count", x.count(4), i);
        }
        SwimLanes busy = edge.does(Baths::busy, "a third", y -> y.note(4, 80, 0, 0, 0), 3);
        edge.is("what may be undone stays", busy.count(5), 4);
        edge.is("undo leaves it", busy.undo() + busy.count(4), 2 + 3);
        edge.is("n may be more than m", Baths.busy().note(0, 1, 0, 6, 0), 3);
        edge.is("s may be 0 with six others", Baths.busy().note(0, 1, 0, 0, 6), 3);
    }

    private void noteBad() {
        edge.says(24, "BAD;");
        edge.range(Baths::busy, "note of", (x, v) -> x.note(v, 50, 50, 1, 1), 0, 3, 4, 3);
        edge.range(Baths::busy, "note, t", (x, v) -> x.note(0, v, 50, 1, 1), 1, 3, 200, 3);
        edge.range(Baths::busy, "note, s", (x, v) -> x.note(0, 50, v, 1, 1), 0, 3, 90, 3);
        edge.range(Baths::busy, "note, n", (x, v) -> x.note(0, 50, 50, v, 6), 0, 3, 6, 3);
        edge.range(Baths::busy, "note, m", (x, v) -> x.note(0, 50, 50, 0, v), 0, 3, 6, 3);
        edge.range(Baths::seven, "note of one of seven", (x, v) -> x.note(v, 50, 50, 1, 1), 0, 3, 6, 3);
        edge.bad(Baths::nobody, "nobody is there", x -> x.note(0, 50, 0, 0, 0));
        edge.bad(Baths::busy, "none as told counts once", x -> x.note(5, 0, 91, 7, 7));
    }

    private void noteFull() {
        edge.says(24, "FULL: 6.");
        edge.full(Baths::notesFull, "a 7th", x -> x.note(0, 1, 0, 0, 0));
        edge.full(Baths::notesFull, "a 7th of another", x -> x.note(4, 200, 90, 6, 6));
        SwimLanes x = Baths.notesFull();
        edge.is("six", x.count(4), 6);
        x.forget();
        edge.is("room again", x.note(0, 1, 0, 0, 0), 1);
    }

    private void forget() {
        edge.says(25, "No NOTES: how many there were.");
        edge.asks(Baths::fresh, "none", SwimLanes::forget, 0);
        edge.asks(Baths::nobody, "none any more", SwimLanes::forget, 0);
        SwimLanes full = edge.does(Baths::notesFull, "six", SwimLanes::forget, 6);
        edge.is("none then", full.count(4), 0);
        edge.is("again", full.forget(), 0);
        edge.is("any kind fits", full.is(0, 0), 63);
        SwimLanes x = edge.does(Baths::busy, "two", SwimLanes::forget, 2);
        x.note(0, 71, 70, 1, 1);
        x.note(2, 34, 52, 1, 1);
        edge.alike("nothing but the notes is changed", x, Baths.busy());
    }

    private void isWithoutNotes() {
        edge.says(26, "IS: KINDS (bits) by which all NOTES of it are so.");
        edge.asks(Baths::busy, "none of it: all kinds", x -> x.is(1, 0), 63);
        edge.asks(Baths::busy, "one of it", x -> x.is(0, 0), 5);
        edge.asks(Baths::busy, "one of it: he sprints", x -> x.is(2, 0), 32);
        edge.asks(EdgesOfTerms::ofNoKind, "no kind", x -> x.is(0, 0), 0);
        edge.asks(Baths::notesFull, "four of it: at the wall", x -> x.is(3, 0), 8 + 2 + 32);
    }

    /** A length of 45 by s = 60, n = 3, m = 4: plain 64, overtakes 54, wall 45, chats 69, sprints 49. */
    private void isEachKind() {
        edge.says(26, "IS (0; bits)");
        int[] fits = new int[201];
        fits[64] = 1 + 4;
        fits[54] = 2;
        fits[45] = 8;
        fits[69] = 16;
        fits[49] = 32;
        for (int t = 1; t <= 200; t++) {
            SwimLanes x = Due.bathOf(0, 45, 0);
            x.note(0, t, 60, 3, 4);
            edge.is("45 in " + t, x.is(0, 0), fits[t]);
        }
        SwimLanes alone = Due.bathOf(4, 45, 0);
        alone.note(0, 45, 0, 0, 0);
        edge.is("alone all are alike", alone.is(0, 0), 63);
        SwimLanes one = Due.bathOf(4, 45, 0);
        one.note(0, 51, 45, 0, 1);
        edge.is("with one: chats", one.is(0, 0), 16);
    }

    private void isAllNotes() {
        edge.says(26, "by which all NOTES of it are so");
        SwimLanes x = Due.bathOf(0, 45, 0, 1, 45, 0);
        x.note(0, 45, 90, 0, 6);
        edge.is("overtakes, wall, sprints", x.is(0, 0), 2 + 8 + 32);
        x.note(1, 44, 0, 0, 0);
        edge.is("another's note", x.is(0, 0), 2 + 8 + 32);
        edge.is("of the other", x.is(1, 0), 0);
        x.note(0, 48, 90, 1, 6);
        edge.is("overtakes", x.is(0, 0), 2);
        x.note(0, 45, 90, 1, 6);
        edge.is("the last one not", x.is(0, 0), 0);
        x.forget();
        x.note(0, 44, 0, 0, 0);
        x.note(0, 45, 0, 0, 0);
        edge.is("the first one not", x.is(0, 0), 0);
    }

    private void paces() {
        edge.says(26, "PACES: how many PACES 20 .. 90 (its KIND as it is) by which they are.");
        edge.asks(Baths::busy, "no notes of it", x -> x.is(1, 1), 71);
        int[][] wall = {{19, 0}, {20, 1}, {21, 1}, {89, 1}, {90, 1}, {91, 0}};
        for (int[] t : wall) {
            paces(3, t[0], 0, t[1]);
        }
        int[][] plain = {{19, 0}, {20, 1}, {21, 2}, {89, 70}, {90, 71}};
        for (int[] t : plain) {
            paces(0, t[0], t[0], t[1]);
        }
        paces(0, 90, 0, 1);
        paces(0, 91, 0, 0);
        paces(0, 90, 89, 1);
        SwimLanes x = Due.bathOf(1, 30, 0);
        x.note(0, 93, 90, 1, 1);
        edge.is("not by its pace, but by 90", x.is(0, 1), 1);
        edge.is("no kind by its pace", x.is(0, 0), 0);
        x.note(0, 92, 90, 1, 1);
        edge.is("no pace fits both", x.is(0, 1), 0);
    }

    private void paces(int kind, int t, int s, int want) {
        SwimLanes x = Due.bathOf(kind, 50, 0);
        x.note(0, t, s, 0, 0);
        edge.is("paces of kind " + kind + " for " + t + " with " + s, x.is(0, 1), want);
    }

    private void isBad() {
        edge.says(26, "IS (0; bits), PACES (1). BAD.");
        edge.range(Baths::busy, "is of", (x, v) -> x.is(v, 0), 0, 5, 4, 63);
        edge.range(Baths::busy, "is, what", (x, v) -> x.is(0, v), 0, 5, 1, 51);
        edge.bad(Baths::nobody, "nobody is there", x -> x.is(0, 0));
    }

    private void look() {
        edge.says(27, "LOOK: the open LANE by which, as all are, the most of these KINDS for whom a length would take alike are fewest");
        // 45 alone: six alike; with a quicker one: 46 twice, 45 three times, 51; with a slower one: two alike at most
        edge.is("a slower one in 3", Due.bathOf(0, 45, 0, 3, 20, 1, 3, 20, 2, 3, 70, 3).look(0), 3);
        edge.is("a quicker one in 2", Due.bathOf(0, 45, 0, 3, 20, 2).look(0), 2);
        SwimLanes told = Due.bathOf(0, 45, 0, 3, 20, 1, 3, 90, 3);
        told.note(0, 45, 90, 0, 6);
        edge.is("overtakes, wall, sprints: told by a slower one alone", told.look(0), 3);
        told.note(0, 48, 90, 1, 6);
        edge.is("one kind: any lane", told.look(0), 0);
        SwimLanes where = Due.bathOf(0, 45, 2, 3, 90, 2);
        edge.is("where it is, but for itself", where.look(0), 2);
        SwimLanes two = Due.bathOf(0, 45, 0, 3, 70, 1);
        two.note(0, 46, 20, 0, 1);
        edge.is("plain or proud are alike everywhere", two.look(0), 0);
    }

    private void lookOfLikeOnes() {
        edge.says(27, "of like ones the least; none: no KIND, no LANE.");
        for (int l = 0; l < 4; l++) {
            edge.is("alone in " + l, Due.bathOf(0, 45, l).look(0), 0);
        }
        edge.is("slower ones in 1, 2, 3", Due.bathOf(0, 45, 0, 3, 70, 1, 3, 80, 2, 3, 90, 3).look(0), 1);
        // 57 for overtakes and chats by four of 48: two alike at most, as by one of 90
        edge.is("two alike by unlike kinds", Due.bathOf(0, 45, 3, 3, 48, 0, 3, 48, 0, 3, 48, 0, 3, 48, 0, 3, 90, 1)
            .look(0), 0);
        edge.is("slower ones in 2, 3", Due.bathOf(0, 45, 0, 3, 80, 2, 3, 90, 3).look(0), 2);
    }

    private void lookOnlyOpen() {
        edge.says(27, "the open LANE by which");
        SwimLanes x = Due.bathOf(0, 45, 3);
        x.shut(0, 1);
        edge.is("0 is shut", x.look(0), 1);
        x.shut(1, 1);
        x.shut(2, 1);
        edge.is("all but 3 are shut", x.look(0), 3);
    }

    private void lookNone() {
        edge.says(27, "none: no KIND");
        edge.asks(EdgesOfTerms::ofNoKind, "none", x -> x.look(0), -1);
        SwimLanes x = EdgesOfTerms.ofNoKind();
        x.forget();
        edge.is("forgotten", x.look(0), 0);
    }

    private void lookBad() {
        edge.says(27, "LOOK. NONE. BAD.");
        edge.range(Baths::busy, "look", (x, v) -> x.look(v), 0, 0, 4, 0);
        edge.bad(Baths::nobody, "nobody is there", x -> x.look(0));
        edge.bad(Baths::fresh, "nobody was there", x -> x.look(0));
    }

    private void touch() {
        edge.says(28, "neither would get more by doing otherwise");
        int[][] paces = {{20, 90}, {49, 50}, {50, 50}, {50, 49}, {90, 20}};
        for (int[] pace : paces) {
            for (int kind = 0; kind < 6; kind++) {
                SwimLanes x = Due.bathOf(kind, pace[0], 3, 5 - kind, pace[1], 3);
                edge.is(pace[0] + " behind " + pace[1], x.touch(0, 1), 1);
                edge.is(pace[1] + " behind " + pace[0], x.touch(1, 0), 1);
            }
        }
        edge.asks(Baths::busy, "touch(1, 0)", x -> x.touch(1, 0), 1);
    }

    private void touchBad() {
        edge.says(28, "BAD: alike, too;");
        edge.range(() -> Baths.sevenInLane0(), "touch, a", (x, v) -> x.touch(v, 3), 0, 1, 6, 1);
        edge.range(() -> Baths.sevenInLane0(), "touch, b", (x, v) -> x.touch(3, v), 0, 1, 6, 1);
        for (int p = 0; p < 5; p++) {
            int one = p;
            edge.bad(Baths::busy, "alike " + p, x -> x.touch(one, one));
        }
        edge.bad(Baths::busy, "alike, nobody", x -> x.touch(5, 5));
        edge.bad(Baths::nobody, "nobody is there", x -> x.touch(0, 1));
    }

    private void touchNo() {
        edge.says(28, "two unlike ones a, b in one LANE (NO: they are not)");
        edge.no(Baths::busy, "touch(0, 2)", x -> x.touch(0, 2));
        edge.no(Baths::busy, "touch(4, 3)", x -> x.touch(4, 3));
        SwimLanes x = Baths.busy();
        x.goes(0, 1);
        edge.is("gone to it", x.touch(0, 2), 1);
        edge.is("gone from it", x.touch(0, 1), SwimLanes.NO);
    }

    private void fraction(int n, int k, int c, long above, long below) {
        String what = "counts(" + n + ", " + k + ", " + c + ")";
        SwimLanes x = edge.does(Baths::busy, what, y -> y.counts(n, k, c), 1);
        edge.is(what + " above", x.part(0), above);
        edge.is(what + " below", x.part(1), below);
    }

    private void counts() {
        edge.says(29, "the chance that k (0 .. 9) or more are counted");
        for (int n = 0; n <= 9; n++) {
            for (int k = 0; k <= 9; k++) {
                for (int c = 0; c <= 10; c++) {
                    BigInteger sum = BigInteger.ZERO;
                    for (int counted = k; counted <= n; counted++) {
                        sum = sum.add(choose(n, counted).multiply(BigInteger.valueOf(10 - c).pow(counted))
                            .multiply(BigInteger.valueOf(c).pow(n - counted)));
                    }
                    SwimLanes x = new SwimLanes();
                    edge.is("counts", x.counts(n, k, c), 1);
                    BigInteger crossed = sum.multiply(BigInteger.valueOf(x.part(1)))
                        .subtract(BigInteger.TEN.pow(n).multiply(BigInteger.valueOf(x.part(0))));
                    edge.is("the chance by " + n + " " + k + " " + c, crossed.signum(), 0);
                }
            }
        }
    }

    private static BigInteger choose(int n, int k) {
        BigInteger ways = BigInteger.ONE;
        for (int i = 0; i < k; i++) {
            ways = ways.multiply(BigInteger.valueOf(n - i)).divide(BigInteger.valueOf(i + 1));
        }
        return ways;
    }

    private void countsEnds() {
        edge.says(29, "COUNTS are THE FRACTION: 1.");
        fraction(0, 0, 0, 1, 1);
        fraction(0, 0, 10, 1, 1);
        fraction(0, 1, 0, 0, 1);
        fraction(9, 0, 10, 1, 1);
        fraction(9, 1, 10, 0, 1);
        fraction(9, 9, 0, 1, 1);
        fraction(9, 9, 9, 1, 1000000000);
        fraction(9, 9, 1, 387420489, 1000000000);
        fraction(9, 1, 9, 1000000000 - 387420489, 1000000000);
        fraction(9, 9, 8, 1, 1953125);
        fraction(9, 9, 5, 1, 512);
        fraction(9, 5, 5, 1, 2);
        fraction(8, 9, 0, 0, 1);
        SwimLanes x = edge.does(Baths::busy, "counts", y -> y.counts(1, 1, 5), 1);
        x.counts(3, 2, 1);
        edge.alike("nothing but the fraction is changed", x, Baths.busy());
    }

    private void countsBad() {
        edge.says(29, "BAD.");
        edge.range(Baths::busy, "counts, n", (x, v) -> x.counts(v, 5, 5), 0, 1, 9, 1);
        edge.range(Baths::busy, "counts, k", (x, v) -> x.counts(5, v, 5), 0, 1, 9, 1);
        edge.range(Baths::busy, "counts, c", (x, v) -> x.counts(5, 5, v), 0, 1, 10, 1);
        edge.range(Baths::fresh, "counts, c, nobody there", (x, v) -> x.counts(5, 5, v), 0, 1, 10, 1);
    }

    private void mornings() {
        edge.says(30, "LENGTHS of all by these");
        edge.asks(Baths::busy, "none", x -> x.mornings(0, 0), 0);
        edge.asks(Baths::busy, "none by the greatest seed", x -> x.mornings(999999, 0), 0);
        edge.asks(() -> Due.bathOf(0, 60, 3), "one, 60 times", x -> x.mornings(1, 60), 60);
        edge.asks(() -> Due.bathOf(0, 20, 3), "one of 20, once", x -> x.mornings(1, 1), 3);
    }

    /** The same changes and minutes one by one, X by numbers without a bound. */
    private void morningsDrawn() {
        edge.says(30, "X becomes X times 1103515245 and 12345, by 2147483648 what is left over");
        for (int seed : new int[] {0, 1, 2, 12345, 65535, 65536, 524287, 999998, 999999}) {
            SwimLanes x = Baths.seven();
            SwimLanes same = Baths.seven();
            BigInteger drawn = BigInteger.valueOf(seed);
            int swum = 0;
            for (int n = 1; n <= 60; n++) {
                drawn = next(drawn);
                int p = drawn.shiftRight(16).mod(BigInteger.valueOf(7)).intValue();
                drawn = next(drawn);
                same.goes(p, drawn.shiftRight(16).mod(BigInteger.valueOf(4)).intValue());
                swum += same.minute(1);
                edge.is("mornings(" + seed + ", " + n + ")", x.mornings(seed, n), swum);
            }
        }
    }

    private static BigInteger next(BigInteger x) {
        return x.multiply(BigInteger.valueOf(1103515245)).add(BigInteger.valueOf(12345))
            .mod(BigInteger.valueOf(2147483648L));
    }

    private void morningsOpen() {
        edge.says(30, "that one goes to that LANE, if it is open; then a MINUTE goes by");
        SwimLanes only = Due.bathOf(0, 30, 1, 3, 60, 1);
        for (int l : new int[] {0, 2, 3}) {
            only.shut(l, 1);
        }
        edge.is("both stay: 61 and 60", only.mornings(5, 60), 3600 / 61 + 60);
        only.shut(0, 0);
        edge.is("somebody goes: more lengths", Integer.signum(only.mornings(5, 60) - 3600 / 61 - 60), 1);
    }

    private void mornings999() {
        edge.says(30, "then a MINUTE goes by");
        edge.asks(() -> Baths.atMinute(998), "two from 998", x -> x.mornings(3, 2), 2);
        edge.asks(() -> Baths.atMinute(999), "none goes by at 999", x -> x.mornings(3, 60), 0);
    }

    private void morningsBad() {
        edge.says(30, "MORNINGS by a SEED (0 .. 999999), n (0 .. 60)");
        edge.range(() -> Due.bathOf(3, 60, 0), "mornings, seed", (x, v) -> x.mornings(v, 9), 0, 9, 999999, 9);
        edge.range(() -> Due.bathOf(3, 60, 0), "mornings, n", (x, v) -> x.mornings(9, v), 0, 0, 60, 60);
        edge.bad(Baths::busy, "both not as told", x -> x.mornings(-1, 61));
    }

    private void morningsNo() {
        edge.says(30, "(NO: nobody is there)");
        edge.no(Baths::fresh, "a new one", x -> x.mornings(0, 0));
        edge.no(Baths::nobody, "nobody any more", x -> x.mornings(999999, 60));
    }
}
