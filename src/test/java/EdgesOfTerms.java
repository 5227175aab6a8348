/** The section 'Terms': lanes, swimmers, kinds, signs, a minute, the fraction, what is refused first, status. */
final class EdgesOfTerms {
    private final Edge edge;

    EdgesOfTerms(Edge edge) {
        this.edge = edge;
    }

    void run() {
        calls512();
        lanes();
        swimmers();
        paces();
        onlyOpenLanes();
        minutesHaveNumbers();
        lengthsAtFirst();
        plain();
        overtakes();
        proud();
        wall();
        chats();
        sprints();
        signOfAPace();
        aMinute();
        leftOverStays();
        lastMinute();
        nothingIsChanged();
        undoable();
        undoneByWhat();
        nothingToUndoBehind();
        images();
        fraction();
        badFirst();
        noBeforeFull();
        badBeforeFull();
        statusCounts();
        notCounted();
    }

    private void calls512() {
        edge.says(Edge.TERMS, "An object is used for at most 512 calls after it has been made");
        SwimLanes x = new SwimLanes();
        for (int i = 0; i < 511; i++) {
            x.undo();
        }
        edge.is("the 512th call", x.status(1), 511);
        SwimLanes y = new SwimLanes();
        y.one(0, 30, 0);
        for (int i = 0; i < 510; i++) {
            y.minute(2);
        }
        edge.is("the 512th call, behind 510 that go on", y.count(3), 999 * 2);
    }

    private void lanes() {
        edge.says(Edge.TERMS, "3, each with a SIGN 0 slow, 1 medium, 2 fast (0, 1, 1, 2 at first), open or shut (open at first).");
        int[] signs = {0, 1, 1, 2};
        for (int l = 0; l < 4; l++) {
            int at = l;
            edge.asks(Baths::fresh, "sign of " + l, x -> x.lane(at, 0), signs[l]);
            edge.asks(Baths::fresh, "shut " + l, x -> x.lane(at, 1), 0);
        }
        edge.bad(Baths::fresh, "lane -1", x -> x.lane(-1, 0));
        edge.bad(Baths::fresh, "lane 4", x -> x.lane(4, 0));
        edge.is("open ones", new SwimLanes().count(2), 4);
    }

    private void swimmers() {
        edge.says(Edge.TERMS, "SWIMMERS 0 .. 6, as they come");
        SwimLanes x = new SwimLanes();
        for (int p = 0; p < 7; p++) {
            edge.is("number", x.one(p % 6, 20 + p, 3 - p % 4), p);
            edge.is("kind of " + p, x.of(p, 0), p % 6);
            edge.is("pace of " + p, x.of(p, 1), 20 + p);
            edge.is("lane of " + p, x.of(p, 2), 3 - p % 4);
        }
        edge.is("an 8th", x.one(0, 20, 0), SwimLanes.FULL);
        edge.is("number 7", x.of(7, 0), SwimLanes.BAD);
    }

    private void paces() {
        edge.says(Edge.TERMS, "a PACE (20 .. 90 seconds a length)");
        edge.range(Baths::fresh, "one of pace", (x, v) -> x.one(3, v, 0), 20, 0, 90, 0);
        edge.is("20", Due.bathOf(0, 20, 0).seconds(0, 0, 0), 20);
        edge.is("90", Due.bathOf(0, 90, 0).seconds(0, 0, 0), 90);
    }

    private void onlyOpenLanes() {
        edge.says(Edge.TERMS, "a LANE that is open");
        for (int l = 0; l < 4; l++) {
            int at = l;
            SwimLanes x = new SwimLanes();
            x.shut(l, 1);
            edge.is("comes to " + l + ", shut", x.one(0, 30, at), SwimLanes.NO);
            edge.is("nobody is there", x.count(0), 0);
            x.shut(l, 0);
            edge.is("comes to " + l + ", open", x.one(0, 30, at), 0);
        }
    }

    private void minutesHaveNumbers() {
        edge.says(Edge.TERMS, "MINUTES have numbers, 0 at first (999 at most)");
        edge.is("at first", new SwimLanes().count(1), 0);
        edge.is("one", Baths.atMinute(1).count(1), 1);
        edge.is("998", Baths.atMinute(998).count(1), 998);
        edge.is("999", Baths.atMinute(999).count(1), 999);
        edge.is("1000", Baths.atMinute(1000).count(1), 999);
    }

    private void lengthsAtFirst() {
        edge.says(Edge.TERMS, "LENGTHS of each, in SECONDS left over (0 at first).");
        SwimLanes x = Due.bathOf(0, 50, 0);
        noLengths(x, 0);
        x.minute(9);
        x.one(0, 50, 1);
        noLengths(x, 1);
        x.minute(9);
        x.image(0);
        x.bath();
        x.one(0, 50, 0);
        x.one(0, 50, 1);
        noLengths(x, 0);
        noLengths(x, 1);
        x.minute(1);
        x.image(1);
        x.from(0);
        x.from(1);
        x.one(0, 50, 2);
        noLengths(x, 2);
        SwimLanes fewer = Due.bathOf(0, 50, 0);
        fewer.image(0);
        fewer.one(0, 50, 1);
        fewer.minute(7);
        fewer.from(0);
        fewer.one(0, 50, 2);
        noLengths(fewer, 1);
    }

    private void noLengths(SwimLanes x, int p) {
        edge.is("lengths of " + p, x.of(p, 3), 0);
        edge.is("left over of " + p, x.of(p, 4), 0);
    }

    /** How many SECONDS one of 50 needs in a lane with these. */
    private void takes(int kind, long want, int... paces) {
        SwimLanes x = Due.bathOf(kind, 50, 0);
        for (int pace : paces) {
            x.one(3, pace, 0);
        }
        edge.is("50 with " + java.util.Arrays.toString(paces), x.seconds(0, 0, 0), want);
    }

    private void believes(int kind, int less) {
        for (int pace : new int[] {20, 21, 55, 89, 90}) {
            edge.is("believed by one of " + pace, Due.bathOf(kind, pace, 0).of(0, 5), pace - less);
        }
    }

    private void plain() {
        edge.says(Edge.TERMS, "0 PLAIN: p, or s, if that is more, and m; p.");
        takes(0, 50);
        takes(0, 51, 20);
        takes(0, 51, 49);
        takes(0, 51, 50);
        takes(0, 52, 51);
        takes(0, 91, 90);
        takes(0, 92, 51, 90);
        takes(0, 92, 90, 51);
        takes(0, 56, 20, 21, 22, 23, 24, 25);
        takes(0, 96, 90, 90, 90, 90, 90, 90);
        believes(0, 0);
    }

    private void overtakes() {
        edge.says(Edge.TERMS, "1 OVERTAKES (under PLAIN): p and 3 n; p.");
        takes(1, 50);
        takes(1, 50, 49);
        takes(1, 50, 50);
        takes(1, 53, 51);
        takes(1, 53, 51, 50, 20);
        takes(1, 68, 90, 90, 51, 60, 70, 80);
        believes(1, 0);
    }

    private void proud() {
        edge.says(Edge.TERMS, "2 PROUD (under PLAIN): as PLAIN; 15 less.");
        takes(2, 50);
        takes(2, 51, 50);
        takes(2, 52, 51);
        takes(2, 96, 90, 90, 90, 90, 90, 90);
        believes(2, 15);
    }

    private void wall() {
        edge.says(Edge.TERMS, "3 WALL (under PLAIN): p; as PLAIN.");
        takes(3, 50);
        takes(3, 50, 51);
        takes(3, 50, 90, 90, 90, 90, 90, 90);
        believes(3, 0);
    }

    private void chats() {
        edge.says(Edge.TERMS, "4 CHATS (under PROUD): 5 more than PROUD, if m is 1 or more, else as PROUD; as PROUD.");
        takes(4, 50);
        takes(4, 56, 20);
        takes(4, 56, 50);
        takes(4, 57, 51);
        takes(4, 58, 51, 20);
        takes(4, 101, 90, 90, 90, 90, 90, 90);
        believes(4, 15);
    }

    private void sprints() {
        edge.says(Edge.TERMS, "5 SPRINTS (under OVERTAKES): p and half (cut) of what OVERTAKES is more than p; 5 less.");
        takes(5, 50);
        takes(5, 50, 50, 49);
        takes(5, 51, 51);
        takes(5, 53, 51, 52);
        takes(5, 54, 51, 52, 53);
        takes(5, 56, 51, 52, 53, 54);
        takes(5, 57, 51, 52, 53, 54, 55);
        takes(5, 59, 51, 52, 53, 54, 55, 56);
        believes(5, 5);
    }

    private void signOfAPace() {
        edge.says(Edge.TERMS, "SIGN of a PACE: 0, if it is 60 or more, 2, if it is below 40, else 1.");
        int[][] paces = {{20, 2}, {39, 2}, {40, 1}, {41, 1}, {59, 1}, {60, 0}, {61, 0}, {90, 0}};
        for (int[] pace : paces) {
            for (int sign = 0; sign < 3; sign++) {
                SwimLanes x = Due.bathOf(0, pace[0], 2);
                x.sign(2, sign);
                edge.is(pace[0] + " by sign " + sign, x.obey(0), sign == pace[1] ? 1 : 0);
            }
        }
    }

    private void aMinute() {
        edge.says(Edge.TERMS, "60 SECONDS are added to what is left over of each; as many LENGTHS as there are in them, "
            + "of so many SECONDS as a length takes one there");
        int[][] paces = {{20, 3, 0}, {21, 2, 18}, {29, 2, 2}, {30, 2, 0}, {31, 1, 29}, {59, 1, 1}, {60, 1, 0},
            {61, 0, 60}, {90, 0, 60}};
        for (int[] pace : paces) {
            SwimLanes x = Due.bathOf(0, pace[0], 0);
            edge.is("a minute of " + pace[0], x.minute(1), pace[1]);
            edge.is("lengths of " + pace[0], x.of(0, 3), pace[1]);
            edge.is("left over of " + pace[0], x.of(0, 4), pace[2]);
        }
        SwimLanes slow = Due.bathOf(0, 90, 0);
        edge.is("120 of 90", slow.minute(2), 1);
        edge.is("left over", slow.of(0, 4), 30);
        edge.is("90 of 90, just one more", slow.minute(1), 1);
        edge.is("nothing left over", slow.of(0, 4), 0);
        SwimLanes there = Due.bathOf(0, 20, 0, 3, 60, 0, 0, 20, 1);
        edge.is("by the lane that each is in", there.minute(1), 0 + 1 + 3);
    }

    private void leftOverStays() {
        edge.says(Edge.TERMS, "what is left over stays");
        SwimLanes x = Due.bathOf(0, 50, 0, 3, 70, 1);
        x.minute(1);
        edge.is("left over", x.of(0, 4), 10);
        x.goes(0, 1);
        edge.is("in another lane", x.of(0, 4), 10);
        edge.is("70 of 71", x.minute(1), 1);
        edge.is("of 0", x.of(0, 3), 1);
        edge.is("left over of 0", x.of(0, 4), 70);
        x.goes(0, 2);
        edge.is("more than a length there", x.of(0, 4), 70);
        edge.is("not without a minute", x.of(0, 3), 1);
        x.minute(1);
        edge.is("130 of 50", x.of(0, 3), 3);
        edge.is("left over of them", x.of(0, 4), 30);
    }

    private void lastMinute() {
        edge.says(Edge.TERMS, "(At MINUTE 999 none goes by.)");
        SwimLanes x = Baths.atMinute(998);
        edge.is("998", x.of(0, 3), 998);
        edge.is("from 998", x.minute(1), 1 + 1);
        edge.is("999", x.of(0, 3), 999);
        int left = x.of(1, 4);
        edge.is("from 999", x.minute(1), 0);
        edge.is("from 999, 60", x.minute(60), 0);
        edge.is("still 999", x.count(1), 999);
        edge.is("no lengths more", x.of(0, 3), 999);
        edge.is("left over as it was", x.of(1, 4), left);
        edge.is("999 minutes of 50", x.of(1, 3), 999 * 60 / 50);
        edge.is("left over of 999 minutes of 50", left, 999 * 60 % 50);
        SwimLanes cut = Baths.atMinute(998);
        edge.is("60 from 998", cut.minute(60), 1 + 1);
    }

    private void nothingIsChanged() {
        edge.says(Edge.TERMS, "(Nothing is changed by these.)");
        edge.asks(Baths::busy, "seconds", x -> x.seconds(0, 2, 0), 81);
        edge.asks(Baths::busy, "lengths", x -> x.lengths(0, 60), 4 + 3616 / 71);
        edge.asks(Baths::busy, "best", x -> x.best(0), 3);
        edge.asks(Baths::busy, "cost", x -> x.cost(1, 2), 6);
        edge.asks(Baths::busy, "where", x -> x.where(0), 0);
        edge.asks(Baths::busy, "obey", x -> x.obey(0), 2 + 8 + 16);
        edge.asks(Baths::busy, "all", x -> x.all(-1), 280);
        edge.asks(Baths::busy, "all of one", x -> x.all(4), 3);
        edge.asks(Baths::busy, "changes", x -> x.changes(-1), 1);
        edge.asks(Baths::busy, "changes of one", x -> x.changes(0), 3);
        edge.asks(Baths::busy, "order", x -> x.order(0, 25, 1, -1), 2);
        edge.asks(Baths::busy, "order of one", x -> x.order(0, 0, 1, 1), 1);
        edge.asks(Baths::busy, "apart", x -> x.apart(1, 9), 0);
        edge.asks(Baths::busy, "is", x -> x.is(2, 0), 32);
        edge.asks(Baths::busy, "look", x -> x.look(3), 0);
        edge.asks(Baths::busy, "touch", x -> x.touch(0, 1), 1);
        edge.asks(Baths::busy, "mornings", x -> x.mornings(7, 0), 0);
        SwimLanes x = Baths.busy();
        x.mornings(7, 60);
        edge.alike("mornings(7, 60)", x, Baths.busy());
    }

    private void undoable() {
        edge.says(Edge.TERMS, "(8 at most;");
        SwimLanes x = Due.bathOf(0, 30, 0);
        edge.is("none at first", x.count(5), 0);
        for (int i = 1; i <= 8; i++) {
            x.minute(1);
            edge.is("changes " + i, x.count(5), i);
        }
        x.goes(0, 3);
        edge.is("9 changes", x.count(5), 8);
        for (int i = 8; i >= 1; i--) {
            edge.is("undo", x.undo(), i);
            edge.is("then", x.count(5), i - 1);
            edge.is("lengths then", x.of(0, 3), 2 * i);
        }
        edge.is("a 9th time", x.undo(), SwimLanes.NO);
        edge.is("the first is lost", x.of(0, 3), 2);
    }

    private void undoneByWhat() {
        edge.says(Edge.TERMS, "UNDO: LANES of all, LENGTHS, what is left over, the MINUTE as ahead of the last change, MINUTES gone by");
        SwimLanes x = Baths.busy();
        edge.is("minutes undone", x.undo(), 2);
        int[] lengths = {1, 1, 3, 2, 1};
        int[] left = {49, 50, 18, 16, 40};
        for (int p = 0; p < 5; p++) {
            edge.is("lengths of " + p, x.of(p, 3), lengths[p]);
            edge.is("left over of " + p, x.of(p, 4), left[p]);
        }
        edge.is("a change undone", x.undo(), 2);
        edge.is("lane of 0", x.of(0, 2), 1);
        edge.is("the change ahead of it", x.undo(), 2);
        edge.is("lane of 0, first", x.of(0, 2), 0);
        edge.is("the first minutes", x.undo(), 0);
        edge.is("no lengths", x.count(3), 0);
        edge.is("the sign stays", x.lane(2, 0), 0);
        edge.is("the notes stay", x.count(4), 2);
        edge.is("the fraction stays", x.part(0), 243);
        edge.is("the text stays", x.count(6), Baths.TEXT.length());
    }

    private void nothingToUndoBehind() {
        edge.says(Edge.TERMS, "behind one that comes, a LANE shut or opened none may be)");
        for (int which = 0; which < 3; which++) {
            SwimLanes x = which == 2 ? Baths.lane3Shut() : Baths.busy();
            edge.is("some may be", Integer.signum(x.count(5)), 1);
            long answer = which == 0 ? x.one(0, 20, 0) : which == 1 ? x.shut(3, 1) : x.shut(3, 0);
            edge.is("case " + which, answer, new int[] {5, 0, 1}[which]);
            edge.is("case " + which + ", then none", x.count(5), 0);
            edge.is("case " + which + ", undo", x.undo(), SwimLanes.NO);
            x.minute(1);
            edge.is("case " + which + ", again one", x.count(5), 1);
        }
        SwimLanes x = Baths.busy();
        x.one(0, 19, 0);
        x.shut(0, 1);
        edge.is("behind refused ones they may be", x.count(5), 4);
    }

    private void images() {
        edge.says(Edge.TERMS, "IMAGES 0, 1 keep all but them, THE TEXT, THE FRACTION and STATUS; what may be undone they keep; "
            + "it goes on from one.");
        SwimLanes x = Baths.busy();
        x.image(0);
        x.bath();
        x.clear();
        x.counts(0, 0, 0);
        x.undo();
        int noes = x.status(1);
        x.from(0);
        edge.is("the text is not kept", x.count(6), 0);
        edge.is("the fraction is not kept", x.part(1), 1);
        edge.is("status is not kept", x.status(1), noes);
        edge.is("what may be undone is kept", x.count(5), 4);
        edge.is("the other image is not in it", x.from(1), 1);
        edge.is("three may be undone there", x.count(5), 3);
        SwimLanes again = Baths.busy();
        again.image(0);
        again.bath();
        again.from(0);
        SwimLanes twin = Baths.busy();
        twin.image(0);
        edge.alike("it goes on from image 0", again, twin);
    }

    private void fraction() {
        edge.says(Edge.TERMS, "THE FRACTION is 0 by 1 at first; lowest terms, below above 0.");
        edge.asks(Baths::fresh, "above", x -> x.part(0), 0);
        edge.asks(Baths::fresh, "below", x -> x.part(1), 1);
        for (int n = 0; n <= 9; n++) {
            for (int k = 0; k <= 9; k++) {
                SwimLanes x = new SwimLanes();
                for (int c = 0; c <= 10; c++) {
                    x.counts(n, k, c);
                    long common = java.math.BigInteger.valueOf(x.part(0))
                        .gcd(java.math.BigInteger.valueOf(x.part(1))).longValueExact();
                    edge.is("common to both by " + n + " " + k + " " + c, common, 1);
                    edge.is("sign of what is below", Long.signum(x.part(1)), 1);
                }
            }
        }
    }

    private void badFirst() {
        edge.says(Edge.TERMS, "Refused, changing nothing but STATUS, the first of: BAD -2 a number is not as told; NO -3 as told");
        edge.bad(Baths::busy, "shut(0, 2), somebody in it", x -> x.shut(0, 2));
        edge.bad(Baths::lane3Shut, "one(6, 20, 3), shut", x -> x.one(6, 20, 3));
        edge.bad(Baths::lane3Shut, "one(0, 91, 3), shut", x -> x.one(0, 91, 3));
        edge.bad(Baths::lane3Shut, "goes(5, 3), shut", x -> x.goes(5, 3));
        edge.bad(Baths::lane3Shut, "cost(5, 3), shut", x -> x.cost(5, 3));
        edge.bad(Baths::busy, "touch(4, 5), no such lane of 5", x -> x.touch(4, 5));
        edge.bad(Baths::nobody, "mornings(1000000, 1), nobody there", x -> x.mornings(1000000, 1));
        edge.bad(Baths::nobody, "mornings(0, 61), nobody there", x -> x.mornings(0, 61));
        edge.bad(Baths::fresh, "from(2), none kept", x -> x.from(2));
        edge.bad(Baths::lane3Shut, "two numbers not as told count once", x -> x.one(6, 91, 3));
    }

    private void noBeforeFull() {
        edge.says(Edge.TERMS, "NO -3 as told; FULL -4");
        edge.no(Baths::sevenInLane0, "an 8th one, the lane shut", x -> x.one(0, 20, 3));
        edge.full(Baths::sevenInLane0, "an 8th one, the lane open", x -> x.one(0, 20, 0));
    }

    private void badBeforeFull() {
        edge.says(Edge.TERMS, "the first of: BAD -2 a number is not as told; NO -3 as told; FULL -4");
        edge.bad(Baths::sevenInLane0, "an 8th one, no kind, the lane shut", x -> x.one(-1, 20, 3));
        edge.bad(Baths::seven, "an 8th one, no pace", x -> x.one(0, 19, 0));
        edge.bad(Baths::seven, "an 8th one, no lane", x -> x.one(0, 20, 4));
        edge.bad(Baths::textFull, "a 151st byte that is none", x -> x.type(128));
        edge.bad(Baths::notesFull, "a 7th note of nobody", x -> x.note(5, 1, 0, 0, 0));
        edge.bad(Baths::notesFull, "a 7th note of no seconds", x -> x.note(0, 0, 0, 0, 0));
        edge.bad(Baths::notesFull, "a 7th note of seven others", x -> x.note(0, 1, 0, 0, 7));
    }

    private void statusCounts() {
        edge.says(Edge.TERMS, "(where others are told they count as these)");
        edge.badAs(-10, Baths::busy, "all(5)", x -> x.all(5));
        edge.badAs(-10, Baths::busy, "changes(5)", x -> x.changes(5));
        edge.badAs(-10, Baths::busy, "order(4, 0, 1, 0)", x -> x.order(4, 0, 1, 0));
        edge.badAs(-1, Baths::busy, "status(3)", x -> x.status(3));
    }

    private void notCounted() {
        edge.says(Edge.TERMS, "STATUS: how many calls were refused as BAD, NO, FULL (each answer told so below is such a one).");
        edge.asks(Baths::busy, "order's -5", x -> x.order(0, 0, 1, 2), -5);
        edge.asks(() -> Due.bathOf(0, 90, 0, 0, 20, 0), "apart's NONE", x -> x.apart(0, 9), -1);
        edge.asks(EdgesOfTerms::ofNoKind, "look's NONE", x -> x.look(0), -1);
        edge.asks(Baths::fresh, "a fault of read", x -> x.read(), -10);
    }

    static SwimLanes ofNoKind() {
        SwimLanes x = Due.bathOf(0, 45, 0);
        x.note(0, 44, 0, 0, 0);
        return x;
    }
}
