import java.math.BigInteger;

/** Promises 31 to 36: part, image, from, status, count, digest. */
final class EdgesOfState {
    private final Edge edge;

    EdgesOfState(Edge edge) {
        this.edge = edge;
    }

    void run() {
        part();
        image();
        imageOfTheFull();
        imageBad();
        from();
        fromBad();
        fromNo();
        status();
        statusOfAnother();
        count();
        countBad();
        digest();
        digestWraps();
        digestLeavesOut();
    }

    private void part() {
        edge.says(31, "THE FRACTION: above (0), below (1). BAD.");
        edge.range(Baths::busy, "part", (x, v) -> x.part(v), 0, 243, 1, 250);
        edge.range(Baths::fresh, "part of a new one", (x, v) -> x.part(v), 0, 0, 1, 1);
        edge.asks(Baths::busy, "above", x -> x.part(0), 243);
        edge.asks(Baths::busy, "below", x -> x.part(1), 250);
    }

    private void image() {
        edge.says(32, "An IMAGE is kept: 1.");
        SwimLanes fresh = edge.does(Baths::fresh, "of nobody", x -> x.image(0), 1);
        fresh.one(0, 20, 0);
        fresh.from(0);
        edge.is("nobody again", fresh.count(0), 0);
        edge.is("none in the other", fresh.from(1), SwimLanes.NO);
        SwimLanes seven = edge.does(Baths::seven, "of seven", x -> x.image(1), 1);
        seven.bath();
        seven.from(1);
        edge.is("seven again", seven.count(0), 7);
        edge.is("the other stays", seven.from(0) + seven.count(0), 6);
        SwimLanes anew = Baths.busy();
        anew.image(0);
        anew.goes(4, 3);
        anew.from(0);
        edge.is("in the place of the one before", anew.of(4, 3), 3);
        edge.is("not what came behind it", anew.of(4, 2), 2);
        SwimLanes same = Baths.busy();
        same.from(1);
        same.image(1);
        SwimLanes twin = Baths.busy();
        twin.from(1);
        edge.alike("kept again as it was", same, twin);
    }

    /** Seven swimmers, six notes, eight that may be undone, all of which are then something else. */
    private static SwimLanes fullImage() {
        SwimLanes x = Baths.seven();
        for (int i = 0; i < 4; i++) {
            x.note(6 - i, 50 + i, 60 + i, i, 6 - i);
        }
        for (int i = 0; i < 9; i++) {
            x.goes(i % 7, 3 - i % 4);
            x.minute(1 + i);
        }
        x.image(0);
        return x;
    }

    private void imageOfTheFull() {
        edge.says(32, "keep all but them");
        SwimLanes x = fullImage();
        edge.is("eight may be undone", x.count(5), 8);
        x.bath();
        for (int p = 0; p < 7; p++) {
            x.one(3, 90 - p, 3);
            x.sign(p % 4, 2);
            x.note(0, 1, 2, 3, 4);
        }
        for (int i = 0; i < 9; i++) {
            x.minute(60);
        }
        x.from(0);
        edge.alike("all as kept", x, fullImage());
    }

    private void imageBad() {
        edge.says(32, "BAD.");
        edge.range(Baths::busy, "image", (x, v) -> x.image(v), 0, 1, 1, 1);
        edge.range(Baths::fresh, "image of a new one", (x, v) -> x.image(v), 0, 1, 1, 1);
    }

    private void from() {
        edge.says(33, "It goes on from an IMAGE: 1.");
        SwimLanes x = edge.does(Baths::busy, "from(0)", y -> y.from(0), 1);
        edge.is("minute", x.count(1), 2);
        edge.is("notes", x.count(4), 0);
        edge.is("sign", x.lane(2, 0), 1);
        edge.is("that may be undone", x.count(5), 1);
        x.minute(9);
        x.one(0, 20, 3);
        edge.is("from(0) again", x.from(0), 1);
        edge.is("minute again", x.count(1), 2);
        edge.is("swimmers again", x.count(0), 5);
        edge.is("undo", x.undo(), 0);
        edge.is("from(1)", x.from(1), 1);
        edge.is("notes there", x.count(4), 2);
        edge.is("sign there", x.lane(2, 0), 0);
        edge.is("undo there", x.undo(), 2);
        edge.is("lane then", x.of(0, 2), 1);
        SwimLanes shut = Baths.lane3Shut();
        shut.image(0);
        shut.shut(3, 0);
        shut.from(0);
        edge.is("shut again", shut.lane(3, 1), 1);
        edge.is("its undo is kept", shut.count(5), 2);
    }

    private void fromBad() {
        edge.says(33, "BAD;");
        edge.range(Baths::busy, "from", (x, v) -> x.from(v), 0, 1, 1, 1);
    }

    private static SwimLanes onlyImage(int i) {
        SwimLanes x = new SwimLanes();
        x.image(i);
        x.minute(1);
        return x;
    }

    private void fromNo() {
        edge.says(33, "NO: none was kept.");
        edge.no(Baths::fresh, "from(0)", x -> x.from(0));
        edge.no(Baths::fresh, "from(1)", x -> x.from(1));
        edge.no(() -> onlyImage(0), "from(1), only 0 kept", x -> x.from(1));
        edge.no(() -> onlyImage(1), "from(0), only 1 kept", x -> x.from(0));
        edge.does(() -> onlyImage(1), "from(1), 1 kept", x -> x.from(1), 1);
    }

    private void status() {
        edge.says(34, "STATUS: BAD (0), NO (1), FULL (2).");
        SwimLanes x = new SwimLanes();
        for (int i = 0; i < 3; i++) {
            edge.is("at first", x.status(i), 0);
        }
        x.of(0, 0);
        edge.is("BAD", x.status(0), 1);
        x.undo();
        x.undo();
        edge.is("NO", x.status(1), 2);
        for (int i = 0; i < 153; i++) {
            x.type(' ');
        }
        edge.is("FULL", x.status(2), 3);
        edge.is("BAD still", x.status(0), 1);
        edge.is("NO still", x.status(1), 2);
        x.bath();
        x.image(0);
        x.from(0);
        edge.is("bath and from leave it", x.status(0) + 10 * x.status(1) + 100 * x.status(2), 321);
        for (int i = 0; i < 3; i++) {
            int at = i;
            edge.asks(Baths::busy, "asked", y -> y.status(at), 1);
        }
    }

    private void statusOfAnother() {
        edge.says(34, "-1: another what (counts as BAD).");
        edge.rangeElse(-1, Baths::busy, "status", (x, v) -> x.status(v), new long[] {0, 1, 2, 1});
        edge.rangeElse(-1, Baths::fresh, "status of a new one", (x, v) -> x.status(v), new long[] {0, 0, 2, 0});
    }

    private void count() {
        edge.says(35, "How many: 0 SWIMMERS, 1 the MINUTE, 2 LANES that are open, 3 LENGTHS of all, 4 NOTES, 5 that may be undone, "
            + "6 bytes of THE TEXT.");
        int[] busy = {5, 5, 4, 24, 2, 4, Baths.TEXT.length()};
        int[] nobody = {0, 7, 3, 0, 0, 1, Baths.TEXT.length()};
        for (int what = 0; what <= 6; what++) {
            int at = what;
            edge.asks(Baths::busy, "count " + what, x -> x.count(at), busy[what]);
            edge.asks(Baths::nobody, "count " + what + ", nobody there", x -> x.count(at), nobody[what]);
        }
        edge.asks(Baths::seven, "seven", x -> x.count(0), 7);
        // by the last minute: the five, none for the proud one (81 seconds behind 80), three for the one of 20
        edge.asks(Baths::seven, "lengths of seven", x -> x.count(3), 24 + 1 + 1 + 2 + 1 + 1 + 0 + 3);
        edge.asks(() -> Baths.atMinute(1050), "the last minute", x -> x.count(1), 999);
        edge.asks(Baths::notesFull, "six notes", x -> x.count(4), 6);
        edge.asks(() -> Baths.atMinute(999), "17 minutes' calls, 8 may be undone", x -> x.count(5), 8);
        edge.asks(Baths::textFull, "150 bytes", x -> x.count(6), 150);
    }

    private void countBad() {
        edge.says(35, "BAD.");
        edge.range(Baths::busy, "count", (x, v) -> x.count(v), 0, 5, 6, Baths.TEXT.length());
    }

    private void digest() {
        edge.says(36, "h = 1279; then h = 31 h + v for each v");
        edge.asks(Baths::fresh, "a new one", SwimLanes::digest,
            of(0, 0, 4, 0, 0, 0, 0, 0, 0, 1, 0, 1, 0, 2, 0, 0, 1));
        edge.asks(Baths::busy, "a busy one", SwimLanes::digest,
            of(5, 5, 4, 24, 2, 4, Baths.TEXT.length(), 0, 0, 1, 0, 0, 0, 2, 0,
                0, 45, 0, 4, 16, 1, 70, 0, 4, 20, 5, 33, 1, 8, 28, 3, 52, 1, 5, 40, 4, 80, 2, 3, 60,
                0, 71, 70, 1, 1, 2, 34, 52, 1, 1, 243, 250));
        SwimLanes x = new SwimLanes();
        x.shut(0, 1);
        x.shut(3, 1);
        x.sign(1, 2);
        edge.is("lanes shut", x.digest(), of(0, 0, 2, 0, 0, 0, 0, 0, 1, 2, 0, 1, 0, 2, 1, 0, 1));
    }

    /** The same by numbers without a bound, of which the last 64 bits are kept. */
    private void digestWraps() {
        edge.says(36, "h = 31 h + v");
        SwimLanes x = Baths.seven();
        for (int i = 0; i < 4; i++) {
            x.note(6, 200 - i, 90 - i, 6 - i, i);
        }
        for (int i = Baths.TEXT.length(); i < 150; i++) {
            x.type('z');
        }
        x.minute(60);
        x.counts(9, 9, 1);
        edge.is("seven swimmers, six notes, 150 bytes", x.digest(), whole(x));
    }

    private static long whole(SwimLanes x) {
        BigInteger h = BigInteger.valueOf(1279);
        for (int what = 0; what <= 6; what++) {
            h = step(h, x.count(what));
        }
        for (int l = 0; l < 4; l++) {
            h = step(step(h, x.lane(l, 0)), x.lane(l, 1));
        }
        for (int p = 0; p < 7; p++) {
            for (int what = 0; what <= 4; what++) {
                h = step(h, x.of(p, what));
            }
        }
        int[] notes = {0, 71, 70, 1, 1, 2, 34, 52, 1, 1, 6, 200, 90, 6, 0, 6, 199, 89, 5, 1, 6, 198, 88, 4, 2,
            6, 197, 87, 3, 3};
        for (int v : notes) {
            h = step(h, v);
        }
        return step(step(h, x.part(0)), x.part(1)).longValue();
    }

    private static BigInteger step(BigInteger h, long v) {
        return h.multiply(BigInteger.valueOf(31)).add(BigInteger.valueOf(v));
    }

    private static long of(long... values) {
        BigInteger h = BigInteger.valueOf(1279);
        for (long v : values) {
            h = step(h, v);
        }
        return h.longValue();
    }

    private void digestLeavesOut() {
        edge.says(36, "of NOTES p, t, s, n, m; THE FRACTION.");
        SwimLanes x = Baths.busy();
        long digest = x.digest();
        x.status(7);
        edge.is("STATUS is not in it", x.digest(), digest);
        x.image(0);
        edge.is("IMAGES are not in it", x.digest(), digest);
        Due.typeAll(x, Baths.TEXT.replace('b', 'c'));
        edge.is("the bytes of the text are not in it", x.digest(), digest);
        x.undo();
        x.minute(3);
        edge.is("what was undone and done again", x.digest(), digest);
    }
}
