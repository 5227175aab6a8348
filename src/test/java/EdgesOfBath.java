/** Promises 1 to 7: a new object, bath, sign, shut, one, type, clear. */
final class EdgesOfBath {
    private final Edge edge;

    EdgesOfBath(Edge edge) {
        this.edge = edge;
    }

    void run() {
        newObject();
        bathHowMany();
        bathAsAtFirst();
        bathKeeps();
        sign();
        signRefused();
        shut();
        shutRefused();
        shutAll();
        one();
        oneBad();
        oneNo();
        oneFull();
        type();
        typeBad();
        typeFull();
        clear();
    }

    private void newObject() {
        edge.says(1, "As told; nobody is there.");
        int[] counts = {0, 0, 4, 0, 0, 0, 0};
        for (int what = 0; what <= 6; what++) {
            int at = what;
            edge.asks(Baths::fresh, "count " + what, x -> x.count(at), counts[what]);
        }
        for (int l = 0; l < 4; l++) {
            int at = l;
            edge.asks(Baths::fresh, "who is in " + l, x -> x.lane(at, 2), 0);
        }
        for (int what = 0; what < 3; what++) {
            int at = what;
            edge.asks(Baths::fresh, "status " + what, x -> x.status(at), 0);
        }
        edge.bad(Baths::fresh, "of(0, 0)", x -> x.of(0, 0));
        edge.no(Baths::fresh, "undo", SwimLanes::undo);
        edge.no(Baths::fresh, "from(0)", x -> x.from(0));
        edge.no(Baths::fresh, "from(1)", x -> x.from(1));
        edge.asks(Baths::fresh, "read", SwimLanes::read, -10);
        edge.alike("one object and another", used(), new SwimLanes());
    }

    /** What is done to one object is not seen in another. */
    private static SwimLanes used() {
        SwimLanes fresh = new SwimLanes();
        Baths.busy().sign(0, 2);
        return fresh;
    }

    private void bathHowMany() {
        edge.says(2, "how many SWIMMERS there were.");
        edge.asks(Baths::fresh, "nobody", SwimLanes::bath, 0);
        edge.does(() -> Due.bathOf(0, 20, 0), "one", SwimLanes::bath, 1);
        SwimLanes x = edge.does(Baths::seven, "seven", SwimLanes::bath, 7);
        edge.is("again", x.bath(), 0);
        for (int p = 0; p < 7; p++) {
            edge.is("there is room for seven again", x.one(0, 20, 0), p);
        }
    }

    private void bathAsAtFirst() {
        edge.says(2, "All as at first");
        SwimLanes x = Baths.sevenInLane0();
        x.sign(1, 0);
        x.bath();
        SwimLanes like = new SwimLanes();
        Due.typeAll(like, Baths.TEXT);
        like.counts(3, 2, 1);
        edge.is("digest", x.digest(), like.digest());
        edge.is("minute", x.count(1), 0);
        edge.is("open lanes", x.count(2), 4);
        edge.is("notes", x.count(4), 0);
        edge.is("undo", x.undo(), SwimLanes.NO);
        SwimLanes late = Baths.atMinute(999);
        late.bath();
        edge.is("behind MINUTE 999", late.minute(60), 0);
        edge.is("it goes by again", late.count(1), 60);
        late.one(0, 60, 0);
        edge.is("one swims again", late.minute(1), 1);
    }

    private void bathKeeps() {
        edge.says(2, "(but for IMAGES, THE TEXT, THE FRACTION, STATUS)");
        SwimLanes x = edge.does(Baths::busy, "five", SwimLanes::bath, 5);
        edge.is("above", x.part(0), 243);
        edge.is("below", x.part(1), 250);
        edge.is("bytes", x.count(6), Baths.TEXT.length());
        edge.is("the text is read", x.read(), 3);
        edge.is("image 0", x.from(0), 1);
        edge.is("its minute", x.count(1), 2);
        edge.is("its undo", x.count(5), 1);
        edge.is("image 1", x.from(1), 1);
        edge.is("its notes", x.count(4), 2);
        edge.is("its undo", x.count(5), 3);
    }

    private void sign() {
        edge.says(3, "A SIGN: what it was.");
        int[] first = {0, 1, 1, 2};
        for (int l = 0; l < 4; l++) {
            SwimLanes x = new SwimLanes();
            int was = first[l];
            for (int n : new int[] {2, 2, 0, 1, 0}) {
                edge.is("sign " + l + " " + n, x.sign(l, n), was);
                edge.is("lane " + l, x.lane(l, 0), n);
                was = n;
            }
            for (int other = 0; other < 4; other++) {
                edge.is("sign of " + other, x.lane(other, 0), other == l ? 0 : first[other]);
            }
        }
        SwimLanes kept = Baths.busy();
        kept.sign(0, 0);
        edge.alike("sign(0, 0), which it is", kept, Baths.busy());
        edge.does(Baths::lane3Shut, "of one that is shut", x -> x.sign(3, 0), 2);
    }

    private void signRefused() {
        edge.says(3, "BAD.");
        edge.range(Baths::busy, "sign of lane", (x, v) -> x.sign(v, 1), 0, 0, 3, 2);
        edge.range(Baths::busy, "sign of lane 3 as", (x, v) -> x.sign(3, v), 0, 2, 2, 2);
        edge.bad(Baths::busy, "both not as told", x -> x.sign(-1, 3));
    }

    private void shut() {
        edge.says(4, "A LANE is shut (1), opened (0): whether it was shut.");
        for (int l = 0; l < 4; l++) {
            SwimLanes x = new SwimLanes();
            edge.is("open, opened", x.shut(l, 0), 0);
            edge.is("open, shut", x.shut(l, 1), 0);
            edge.is("lane", x.lane(l, 1), 1);
            edge.is("open ones", x.count(2), 3);
            edge.is("shut, shut", x.shut(l, 1), 1);
            edge.is("still shut", x.lane(l, 1), 1);
            edge.is("shut, opened", x.shut(l, 0), 1);
            edge.is("lane again", x.lane(l, 1), 0);
            edge.is("open ones again", x.count(2), 4);
        }
        SwimLanes x = edge.does(Baths::lane3Shut, "opened, nobody in it", y -> y.shut(3, 0), 1);
        edge.is("one may go there", x.goes(0, 3), 0);
        edge.does(Baths::busy, "opened, open, somebody in it", y -> y.shut(0, 0), 0);
        edge.range(Baths::busy, "shut of lane, 0", (y, v) -> y.shut(v, 0), 0, 0, 3, 0);
        edge.range(Baths::busy, "shut of lane 3 as", (y, v) -> y.shut(3, v), 0, 0, 1, 0);
        edge.range(Baths::fresh, "shut of lane, 1", (y, v) -> y.shut(v, 1), 0, 0, 3, 0);
    }

    private void shutRefused() {
        edge.says(4, "BAD; NO: somebody is in the one to be shut.");
        edge.no(Baths::busy, "two in it", x -> x.shut(0, 1));
        edge.no(Baths::busy, "one in it", x -> x.shut(2, 1));
        edge.no(Baths::sevenInLane0, "seven in it", x -> x.shut(0, 1));
        edge.does(Baths::sevenInLane0, "nobody in it", x -> x.shut(1, 1), 0);
        SwimLanes x = Due.bathOf(0, 20, 3);
        edge.is("the last one in it", x.shut(3, 1), SwimLanes.NO);
        x.goes(0, 0);
        edge.is("the last one has gone", x.shut(3, 1), 0);
        edge.is("to where it went", x.shut(0, 1), SwimLanes.NO);
    }

    private void shutAll() {
        edge.says(4, "A LANE is shut (1)");
        SwimLanes x = new SwimLanes();
        for (int l = 0; l < 4; l++) {
            x.shut(l, 1);
            edge.is("open ones", x.count(2), 3 - l);
        }
        for (int l = 0; l < 4; l++) {
            edge.is("nobody can come", x.one(0, 20, l), SwimLanes.NO);
        }
        edge.is("nobody: all", x.all(-1), 0);
        edge.is("nobody: changes", x.changes(-1), 0);
        edge.is("nobody: mornings", x.mornings(0, 1), SwimLanes.NO);
        edge.is("nobody: obey", x.obey(0), 0);
        edge.is("nobody: a minute", x.minute(1), 0);
        edge.is("opened", x.shut(2, 0), 1);
        edge.is("one comes", x.one(0, 20, 2), 0);
        edge.is("the only lane", x.best(0), 2);
    }

    private void one() {
        edge.says(5, "One comes: the number.");
        SwimLanes x = edge.does(Baths::busy, "a sixth", y -> y.one(2, 60, 3), 5);
        edge.is("kind", x.of(5, 0), 2);
        edge.is("pace", x.of(5, 1), 60);
        edge.is("lane", x.of(5, 2), 3);
        edge.is("lengths", x.of(5, 3), 0);
        edge.is("left over", x.of(5, 4), 0);
        edge.is("who is in 3", x.lane(3, 2), 32);
        edge.is("swimmers", x.count(0), 6);
        edge.is("the minute goes on", x.count(1), 5);
        edge.is("lengths of the others", x.count(3), 24);
        edge.is("left over of another", x.of(4, 4), 60);
        edge.is("notes stay", x.count(4), 2);
        edge.is("none may be undone", x.count(5), 0);
        edge.is("the seventh", x.one(0, 20, 0), 6);
    }

    private void oneBad() {
        edge.says(5, "BAD; NO");
        edge.range(Baths::busy, "one of kind", (x, v) -> x.one(v, 30, 3), 0, 5, 5, 5);
        edge.range(Baths::busy, "one of pace", (x, v) -> x.one(0, v, 3), 20, 5, 90, 5);
        edge.range(Baths::busy, "one in lane", (x, v) -> x.one(0, 30, v), 0, 5, 3, 5);
        edge.bad(Baths::busy, "none as told counts once", x -> x.one(6, 19, 4));
    }

    private void oneNo() {
        edge.says(5, "NO: the LANE is shut");
        edge.no(Baths::lane3Shut, "one(0, 20, 3)", x -> x.one(0, 20, 3));
        edge.does(Baths::lane3Shut, "one(0, 20, 2)", x -> x.one(0, 20, 2), 5);
        SwimLanes x = Baths.lane3Shut();
        x.shut(3, 0);
        edge.is("opened again", x.one(0, 20, 3), 5);
    }

    private void oneFull() {
        edge.says(5, "FULL: 7.");
        edge.full(Baths::seven, "an 8th", x -> x.one(0, 20, 0));
        edge.full(Baths::seven, "an 8th elsewhere", x -> x.one(5, 90, 3));
        SwimLanes x = Baths.seven();
        x.one(0, 20, 0);
        x.one(0, 20, 0);
        edge.is("refused twice", x.status(2), 3);
        edge.is("seven", x.count(0), 7);
        edge.is("their bits", x.lane(0, 2) | x.lane(1, 2) | x.lane(2, 2) | x.lane(3, 2), 127);
    }

    private void type() {
        edge.says(6, "A byte (0 .. 127) comes behind THE TEXT: how many it has.");
        SwimLanes x = new SwimLanes();
        for (int c = 0; c <= 127; c++) {
            edge.is("byte " + c, x.type(c), c + 1);
        }
        edge.is("bytes", x.count(6), 128);
        SwimLanes busy = edge.does(Baths::busy, "behind what is there", y -> y.type(';'), Baths.TEXT.length() + 1);
        edge.is("it is the last one", busy.read(), -10 - Baths.TEXT.length());
        Due.typeAll(busy, Baths.TEXT);
        edge.alike("nothing but the text is changed", busy, Baths.busy());
    }

    private void typeBad() {
        edge.says(6, "BAD;");
        edge.range(Baths::busy, "type", (x, v) -> x.type(v), 0, 24, 127, 24);
        edge.range(Baths::fresh, "type", (x, v) -> x.type(v), 0, 1, 127, 1);
        edge.bad(Baths::busy, "type(256 + 59)", x -> x.type(256 + 59));
    }

    private void typeFull() {
        edge.says(6, "FULL.");
        SwimLanes x = new SwimLanes();
        for (int i = 1; i <= 150; i++) {
            edge.is("byte " + i, x.type('a'), i);
        }
        edge.is("a 151st", x.type('a'), SwimLanes.FULL);
        edge.is("still 150", x.count(6), 150);
        edge.full(Baths::textFull, "a 151st blank", y -> y.type(' '));
        edge.full(Baths::textFull, "a 151st of 0", y -> y.type(0));
        x.clear();
        edge.is("room again", x.type('b'), 1);
    }

    private void clear() {
        edge.says(7, "THE TEXT is empty: how many it had.");
        edge.asks(Baths::fresh, "an empty one", SwimLanes::clear, 0);
        SwimLanes x = edge.does(Baths::textFull, "a full one", SwimLanes::clear, 150);
        edge.is("bytes", x.count(6), 0);
        edge.is("again", x.clear(), 0);
        edge.is("read then", x.read(), -10);
        SwimLanes busy = edge.does(Baths::busy, "some", SwimLanes::clear, Baths.TEXT.length());
        Due.typeAll(busy, Baths.TEXT);
        edge.alike("nothing but the text is changed", busy, Baths.busy());
    }
}
