/** Promises 31 to 36: part, image, from, status, count, digest. */
public final class WhatThereIsTest {
    private static final Due due = new Due();

    public static void main(String[] args) {
        due.promise(31);
        part();
        due.promise(32, 33);
        images();
        imagesKeepWhatMayBeUndone();
        imagesKeepEachOfThem();
        due.promise(34);
        status();
        due.promise(35);
        count();
        due.promise(36);
        digest();
        due.end("WhatThereIsTest");
    }

    private static void part() {
        SwimLanes x = new SwimLanes();
        x.counts(1, 1, 5);
        due.is("part(0)", x.part(0), 1);
        due.is("part(1)", x.part(1), 2);
        due.bad(x, "part(-1)", () -> x.part(-1));
        due.bad(x, "part(2)", () -> x.part(2));
    }

    private static void images() {
        SwimLanes x = Due.bathOf(0, 30, 0, 4, 50, 1);
        x.sign(1, 0);
        x.shut(3, 1);
        x.minute(3);
        x.note(1, 50, 0, 0, 0);
        long digest = x.digest();
        due.is("image(0)", x.image(0), 1);
        x.bath();
        x.one(5, 90, 2);
        due.is("image(1)", x.image(1), 1);
        due.is("from(0)", x.from(0), 1);
        due.is("all as kept", x.digest(), digest);
        x.minute(9);
        due.is("from(0) again", x.from(0), 1);
        due.is("the image stays as it was", x.digest(), digest);
        due.is("from(1)", x.from(1), 1);
        due.is("the other image", x.of(0, 1), 90);
        x.counts(1, 1, 5);
        x.type('b');
        x.image(1);
        x.clear();
        x.counts(2, 2, 5);
        x.minute(99);
        x.from(1);
        due.is("the text is not kept", x.count(6), 0);
        due.is("the fraction is not kept", x.part(1), 4);
        due.is("status is not kept", x.status(0), 1);
        x.from(0);
        x.image(1);
        x.from(1);
        due.is("an image is kept anew", x.count(0), 2);
        due.bad(x, "image(-1)", () -> x.image(-1));
        due.bad(x, "image(2)", () -> x.image(2));
        due.bad(x, "from(-1)", () -> x.from(-1));
        due.bad(x, "from(2)", () -> x.from(2));
        SwimLanes none = new SwimLanes();
        none.image(0);
        due.no(none, "from(1), none kept", () -> none.from(1));
    }

    private static void imagesKeepWhatMayBeUndone() {
        SwimLanes x = Due.bathOf(0, 30, 0);
        x.minute(1);
        x.goes(0, 2);
        x.image(0);
        x.undo();
        x.undo();
        x.one(0, 20, 0);
        x.minute(7);
        x.from(0);
        due.is("two may be undone", x.count(5), 2);
        due.is("undo", x.undo(), 1);
        due.is("its lane", x.of(0, 2), 0);
        due.is("undo", x.undo(), 0);
        due.no(x, "undo()", x::undo);
        x.from(0);
        due.is("again two", x.count(5), 2);
    }

    private static void imagesKeepEachOfThem() {
        SwimLanes x = Due.bathOf(0, 30, 0, 3, 77, 1);
        int[] lanes = new int[9];
        for (int i = 0; i < 9; i++) {
            lanes[i] = 10 * x.of(0, 2) + x.of(1, 2);
            x.goes(i % 2, 3 - i % 4);
        }
        x.note(1, 2, 3, 4, 5);
        x.note(0, 6, 7, 1, 2);
        x.image(0);
        long kept = x.digest();
        x.forget();
        x.note(0, 9, 9, 0, 0);
        x.note(0, 9, 9, 0, 0);
        for (int i = 0; i < 9; i++) {
            x.minute(5);
        }
        x.from(0);
        due.is("notes as kept", x.digest(), kept);
        for (int i = 8; i >= 1; i--) {
            due.is("undone behind from", x.undo(), 0);
            due.is("lanes ahead of change " + i, 10 * x.of(0, 2) + x.of(1, 2), lanes[i]);
        }
        due.no(x, "undo(), a 9th time", x::undo);
    }

    private static void status() {
        SwimLanes x = new SwimLanes();
        x.sign(4, 0);
        x.all(7);
        x.changes(7);
        x.order(0, 0, 0, 0);
        due.is("BAD, told so or as -10", x.status(0), 4);
        due.is("status(3)", x.status(3), -1);
        due.is("counts as BAD", x.status(0), 5);
        due.is("status(-1)", x.status(-1), -1);
        due.is("counts as BAD", x.status(0), 6);
        x.undo();
        due.is("NO", x.status(1), 1);
        x.read();
        x.order(0, 0, 1, 0);
        for (int i = 0; i < 151; i++) {
            x.type(32);
        }
        due.is("FULL", x.status(2), 1);
        due.is("a fault is no refusal", x.status(0), 6);
        due.is("NO as it was", x.status(1), 1);
    }

    private static void count() {
        SwimLanes x = Due.bathOf(0, 30, 0, 3, 20, 1);
        x.shut(2, 1);
        x.minute(2);
        x.note(0, 1, 0, 0, 0);
        x.type(1);
        int[] want = {2, 2, 3, 10, 1, 1, 1};
        for (int what = 0; what < 7; what++) {
            due.is("count(" + what + ")", x.count(what), want[what]);
        }
        due.bad(x, "count(-1)", () -> x.count(-1));
        due.bad(x, "count(7)", () -> x.count(7));
    }

    private static void digest() {
        due.is("digest of a new one", new SwimLanes().digest(),
            of(0, 0, 4, 0, 0, 0, 0, 0, 0, 1, 0, 1, 0, 2, 0, 0, 1));
        SwimLanes x = Due.bathOf(4, 50, 1);
        x.shut(3, 1);
        x.minute(1);
        x.note(0, 3, 4, 5, 6);
        x.counts(1, 1, 5);
        due.is("digest", x.digest(),
            of(1, 1, 3, 1, 1, 1, 0, 0, 0, 1, 0, 1, 0, 2, 1, 4, 50, 1, 1, 10, 0, 3, 4, 5, 6, 1, 2));
        SwimLanes two = Due.bathOf(3, 50, 1, 3, 80, 2);
        two.minute(3);
        two.goes(1, 3);
        due.is("digest of two", two.digest(),
            of(2, 3, 4, 5, 0, 2, 0, 0, 0, 1, 0, 1, 0, 2, 0, 3, 50, 1, 3, 30, 3, 80, 3, 2, 20, 0, 1));
        x.sign(9, 9);
        due.is("status is not in it", x.digest(),
            of(1, 1, 3, 1, 1, 1, 0, 0, 0, 1, 0, 1, 0, 2, 1, 4, 50, 1, 1, 10, 0, 3, 4, 5, 6, 1, 2));
    }

    private static long of(long... values) {
        long h = 1279;
        for (long v : values) {
            h = 31 * h + v;
        }
        return h;
    }
}
