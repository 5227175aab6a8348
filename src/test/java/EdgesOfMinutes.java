/** Promises 9 to 13: goes, minute, undo, of, lane. */
final class EdgesOfMinutes {
    private final Edge edge;

    EdgesOfMinutes(Edge edge) {
        this.edge = edge;
    }

    void run() {
        goes();
        goesBad();
        goesNo();
        minute();
        minuteTogether();
        minute999();
        minuteBad();
        undoTheMinute();
        undoNone();
        undoAtNine();
        of();
        ofBad();
        lane();
        laneBad();
    }

    private void goes() {
        edge.says(9, "One goes to a LANE: where one was.");
        SwimLanes x = edge.does(Baths::busy, "to an empty one", y -> y.goes(0, 3), 0);
        edge.is("lane", x.of(0, 2), 3);
        edge.is("who is in 0", x.lane(0, 2), 2);
        edge.is("who is in 3", x.lane(3, 2), 1);
        edge.is("one more may be undone", x.count(5), 5);
        edge.is("no minute", x.count(1), 5);
        edge.is("no lengths", x.count(3), 24);
        edge.is("left over", x.of(0, 4), 16);
        edge.is("back", x.goes(0, 0), 3);
        edge.is("to where it is", x.goes(0, 0), 0);
        edge.is("all three may be undone", x.count(5), 7);
        edge.is("undo", x.undo(), 5);
        edge.is("still in 0", x.of(0, 2), 0);
        edge.is("undo", x.undo(), 5);
        edge.is("in 3", x.of(0, 2), 3);
        SwimLanes last = edge.does(Baths::seven, "the last one, with all the others", y -> y.goes(6, 0), 3);
        edge.is("who is in 0", last.lane(0, 2), 1 + 2 + 64);
    }

    private void goesBad() {
        edge.says(9, "BAD;");
        edge.range(Baths::busy, "goes to 3, one", (x, v) -> x.goes(v, 3), 0, 0, 4, 2);
        edge.range(Baths::seven, "goes to 3, one of seven", (x, v) -> x.goes(v, 3), 0, 0, 6, 3);
        edge.range(Baths::busy, "goes to lane", (x, v) -> x.goes(4, v), 0, 2, 3, 2);
        edge.bad(Baths::nobody, "nobody is there", x -> x.goes(0, 0));
        edge.bad(Baths::fresh, "nobody was there", x -> x.goes(0, 0));
    }

    private void goesNo() {
        edge.says(9, "NO: it is shut.");
        edge.no(Baths::lane3Shut, "goes(0, 3)", x -> x.goes(0, 3));
        edge.no(Baths::lane3Shut, "goes(4, 3)", x -> x.goes(4, 3));
        edge.does(Baths::lane3Shut, "goes(0, 2)", x -> x.goes(0, 2), 0);
        SwimLanes x = Baths.lane3Shut();
        x.shut(3, 0);
        edge.is("opened", x.goes(0, 3), 0);
    }

    private void minute() {
        edge.says(10, "LENGTHS of all in them.");
        // 16, 20, 28, 40, 60 left over; a length takes 71, 70, 34, 52, 80 seconds
        SwimLanes x = edge.does(Baths::busy, "one", y -> y.minute(1), 1 + 1 + 2 + 1 + 1);
        int[] left = {5, 10, 20, 48, 40};
        int[] lengths = {5, 5, 10, 6, 4};
        for (int p = 0; p < 5; p++) {
            edge.is("lengths of " + p, x.of(p, 3), lengths[p]);
            edge.is("left over of " + p, x.of(p, 4), left[p]);
        }
        edge.is("minute", x.count(1), 6);
        edge.does(Baths::nobody, "nobody there", y -> y.minute(60), 0);
        edge.does(() -> Due.bathOf(0, 90, 0), "none in one", y -> y.minute(1), 0);
        edge.does(() -> Due.bathOf(0, 20, 0), "180 in 60", y -> y.minute(60), 180);
    }

    private void minuteTogether() {
        edge.says(10, "together one that may be undone");
        SwimLanes x = Baths.busy();
        x.minute(60);
        edge.is("one more", x.count(5), 5);
        edge.is("minute", x.count(1), 65);
        edge.is("undo", x.undo(), 5);
        edge.alike("all 60 undone", x, Baths.busy());
        SwimLanes apart = Baths.busy();
        SwimLanes together = Baths.busy();
        int sum = apart.minute(1) + apart.minute(1) + apart.minute(1);
        edge.is("three together", together.minute(3), sum);
        for (int p = 0; p < 5; p++) {
            edge.is("lengths of " + p, together.of(p, 3), apart.of(p, 3));
            edge.is("left over of " + p, together.of(p, 4), apart.of(p, 4));
        }
        edge.is("three apart may be undone", apart.count(5), 7);
    }

    private void minute999() {
        edge.says(10, "999 at most)");
        SwimLanes x = Baths.atMinute(939);
        edge.is("60 from 939", x.minute(60), 60 + 999 * 6 / 5 - 939 * 6 / 5);
        edge.is("999", x.count(1), 999);
        SwimLanes cut = Baths.atMinute(940);
        cut.minute(60);
        edge.is("60 from 940", cut.count(1), 999);
        edge.is("59 lengths more", cut.of(0, 3), 999);
        edge.is("undo of 59", cut.undo(), 940);
        edge.is("lengths again", cut.of(0, 3), 940);
        SwimLanes last = edge.does(() -> Baths.atMinute(999), "at 999", y -> y.minute(1), 0);
        edge.is("undo at 999", last.undo(), 999);
        edge.is("lengths at 999", last.of(0, 3), 999);
        edge.is("undo of what went by", last.undo(), 960);
    }

    private void minuteBad() {
        edge.says(10, "n MINUTES go by (1 .. 60;");
        edge.range(Baths::busy, "minute", (x, v) -> x.minute(v), 1, 6, 60, lengthsOf60());
        edge.bad(() -> Baths.atMinute(999), "0 at 999", x -> x.minute(0));
        edge.bad(() -> Baths.atMinute(999), "61 at 999", x -> x.minute(61));
    }

    private static long lengthsOf60() {
        int[] left = {16, 20, 28, 40, 60};
        int[] each = {71, 70, 34, 52, 80};
        long sum = 0;
        for (int p = 0; p < 5; p++) {
            sum += (left[p] + 3600) / each[p];
        }
        return sum;
    }

    private void undoTheMinute() {
        edge.says(11, "UNDO: the MINUTE then.");
        SwimLanes x = edge.does(Baths::busy, "undo", SwimLanes::undo, 2);
        edge.is("the next", x.undo(), 2);
        edge.is("the next", x.undo(), 2);
        edge.is("the first", x.undo(), 0);
        edge.is("and none", x.undo(), SwimLanes.NO);
        SwimLanes again = Baths.busy();
        again.undo();
        again.goes(4, 3);
        edge.is("a change behind it", again.count(5), 4);
        edge.is("undo of that", again.undo(), 2);
        edge.is("lane", again.of(4, 2), 2);
        edge.is("lengths", again.count(3), 8);
    }

    private void undoNone() {
        edge.says(11, "NO: none may be.");
        edge.no(Baths::fresh, "a new one", SwimLanes::undo);
        edge.no(() -> Due.bathOf(0, 30, 0), "behind one that comes", SwimLanes::undo);
        edge.no(EdgesOfMinutes::allUndone, "behind all", SwimLanes::undo);
        edge.no(EdgesOfMinutes::bathed, "behind bath", SwimLanes::undo);
        edge.no(EdgesOfMinutes::wasRead, "behind read", SwimLanes::undo);
        edge.no(EdgesOfMinutes::wasShut, "behind shut", SwimLanes::undo);
    }

    private static SwimLanes allUndone() {
        SwimLanes x = Baths.busy();
        for (int i = 0; i < 4; i++) {
            x.undo();
        }
        return x;
    }

    private static SwimLanes bathed() {
        SwimLanes x = Baths.busy();
        x.bath();
        return x;
    }

    private static SwimLanes wasRead() {
        SwimLanes x = Baths.busy();
        x.read();
        return x;
    }

    private static SwimLanes wasShut() {
        SwimLanes x = Baths.busy();
        x.shut(3, 1);
        return x;
    }

    /** Nine changes by turns, of which the last eight are undone. */
    private void undoAtNine() {
        edge.says(11, "NO: none may be.");
        for (int changes = 7; changes <= 10; changes++) {
            SwimLanes x = Due.bathOf(0, 30, 0, 3, 50, 1);
            long[] digests = new long[changes];
            for (int i = 0; i < changes; i++) {
                digests[i] = withoutUndo(x);
                if (i % 2 == 0) {
                    x.minute(1 + i);
                } else {
                    x.goes(i / 2 % 2, 3 - i / 2 % 3);
                }
            }
            int most = Math.min(changes, 8);
            for (int i = 1; i <= most; i++) {
                x.undo();
                edge.is(i + " of " + changes + " undone", withoutUndo(x), digests[changes - i]);
            }
            edge.is("then none of " + changes, x.undo(), SwimLanes.NO);
        }
    }

    private static long withoutUndo(SwimLanes x) {
        long h = x.count(1);
        for (int p = 0; p < 2; p++) {
            for (int what = 2; what <= 4; what++) {
                h = 1009 * h + x.of(p, what);
            }
        }
        return h;
    }

    private void of() {
        edge.says(12, "Of one: KIND (0), PACE (1), LANE (2), LENGTHS (3), SECONDS left over (4), what one BELIEVES (5).");
        int[][] want = {{0, 45, 0, 4, 16, 45}, {1, 70, 0, 4, 20, 70}, {5, 33, 1, 8, 28, 28}, {3, 52, 1, 5, 40, 52},
            {4, 80, 2, 3, 60, 65}};
        for (int p = 0; p < 5; p++) {
            for (int what = 0; what <= 5; what++) {
                int one = p;
                int at = what;
                edge.asks(Baths::busy, "of " + p + " " + what, x -> x.of(one, at), want[p][what]);
            }
        }
    }

    private void ofBad() {
        edge.says(12, "BAD.");
        edge.range(Baths::busy, "of one", (x, v) -> x.of(v, 1), 0, 45, 4, 80);
        edge.range(Baths::seven, "of one of seven", (x, v) -> x.of(v, 1), 0, 45, 6, 20);
        edge.range(Baths::busy, "of what", (x, v) -> x.of(2, v), 0, 5, 5, 28);
        edge.bad(Baths::nobody, "nobody is there", x -> x.of(0, 0));
    }

    private void lane() {
        edge.says(13, "Of a LANE: SIGN (0), shut (1; 1, 0), who is in it (2; bits).");
        int[][] want = {{0, 0, 3}, {1, 0, 28}, {0, 0, 0}, {2, 1, 0}};
        for (int l = 0; l < 4; l++) {
            for (int what = 0; what <= 2; what++) {
                int lane = l;
                int at = what;
                edge.asks(Baths::lane3Shut, "lane " + l + " " + what, x -> x.lane(lane, at), want[l][what]);
            }
        }
        edge.asks(Baths::sevenInLane0, "all in one", x -> x.lane(0, 2), 127);
        edge.asks(Baths::nobody, "nobody", x -> x.lane(0, 2), 0);
    }

    private void laneBad() {
        edge.says(13, "BAD.");
        edge.range(Baths::busy, "lane", (x, v) -> x.lane(v, 0), 0, 0, 3, 2);
        edge.range(Baths::busy, "lane's what", (x, v) -> x.lane(1, v), 0, 1, 2, 12);
    }
}
