/** Promises 24 to 30: note, forget, is, look, touch, counts, mornings. */
public final class HowQuickTest {
    private static final Due due = new Due();

    public static void main(String[] args) {
        due.promise(24, 25);
        noteAndForget();
        due.promise(26);
        is();
        due.promise(27);
        look();
        due.promise(28);
        touch();
        due.promise(29);
        counts();
        due.promise(30);
        mornings();
        due.end("HowQuickTest");
    }

    private static void noteAndForget() {
        SwimLanes x = Due.bathOf(0, 45, 0);
        int[][] wrong = {{-1, 1, 0, 0, 0}, {1, 1, 0, 0, 0}, {0, 0, 0, 0, 0}, {0, 201, 0, 0, 0}, {0, 1, -1, 0, 0},
            {0, 1, 91, 0, 0}, {0, 1, 0, -1, 0}, {0, 1, 0, 7, 0}, {0, 1, 0, 0, -1}, {0, 1, 0, 0, 7}};
        for (int[] w : wrong) {
            due.bad(x, "note of " + w[0] + " " + w[1] + " " + w[2] + " " + w[3] + " " + w[4],
                () -> x.note(w[0], w[1], w[2], w[3], w[4]));
        }
        due.is("forget(), none there", x.forget(), 0);
        due.is("note 0", x.note(0, 1, 0, 0, 0), 1);
        due.is("note 1", x.note(0, 200, 90, 6, 6), 2);
        for (int i = 3; i <= 6; i++) {
            due.is("a note more", x.note(0, 45, 0, 6, 0), i);
        }
        due.full(x, "a 7th note", () -> x.note(0, 45, 0, 0, 0));
        due.bad(x, "a 7th note of nobody", () -> x.note(1, 45, 0, 0, 0));
        due.is("forget()", x.forget(), 6);
        due.is("none then", x.count(4), 0);
        due.is("note again", x.note(0, 45, 0, 0, 0), 1);
    }

    private static void is() {
        SwimLanes x = Due.bathOf(0, 45, 0, 1, 50, 0, 3, 60, 1);
        due.is("no notes, kinds", x.is(0, 0), 63);
        due.is("no notes, paces", x.is(0, 1), 71);
        x.note(0, 72, 70, 2, 2);
        due.is("plain or proud", x.is(0, 0), 5);
        due.is("all paces up to 70", x.is(0, 1), 51);
        due.is("another's kinds", x.is(1, 0), 63);
        x.note(0, 46, 30, 0, 1);
        due.is("plain or proud", x.is(0, 0), 5);
        due.is("one pace", x.is(0, 1), 1);
        x.note(0, 45, 0, 0, 0);
        x.note(0, 51, 0, 2, 1);
        due.is("none fits", x.is(0, 0), 0);
        due.is("no pace fits", x.is(0, 1), 0);
        x.forget();
        x.note(1, 53, 90, 2, 5);
        due.is("he sprints", x.is(1, 0), 32);
        due.is("did he overtake, by pace", x.is(1, 1), 1);
        x.forget();
        x.note(2, 61, 90, 1, 1);
        due.is("61 is 60 and half of 3", x.is(2, 0), 32);
        x.forget();
        x.note(1, 96, 90, 0, 1);
        due.is("he chats", x.is(1, 0), 16);
        due.bad(x, "is(-1, 0)", () -> x.is(-1, 0));
        due.bad(x, "is(3, 0)", () -> x.is(3, 0));
        due.bad(x, "is(0, -1)", () -> x.is(0, -1));
        due.bad(x, "is(0, 2)", () -> x.is(0, 2));
    }

    private static void look() {
        // lane 0: 70 and 60; lane 1: 60; lane 2: nobody; lane 3: 20
        SwimLanes x = Due.bathOf(0, 45, 2, 0, 70, 0, 0, 60, 0, 0, 60, 1, 0, 20, 3);
        // lane 0: plain and proud 72, overtakes 51, wall 45, chats 77, sprints 48; the same in 1 but for less
        due.is("of like ones the least", x.look(0), 0);
        due.is("for 70: three of 70 in each", x.look(1), 0);
        x.note(0, 45, 0, 0, 0);
        due.is("the note tells nothing", x.look(0), 0);
        x.note(0, 45, 90, 0, 6);
        due.is("overtakes, wall or sprints", x.is(0, 0), 2 + 8 + 32);
        due.is("look for these", x.look(0), 0);
        x.shut(2, 0);
        x.goes(1, 3);
        x.goes(2, 3);
        due.is("lane 1 tells as much as 3", x.look(0), 1);
        due.is("nothing tells 90 from 90", Due.bathOf(3, 90, 3).look(0), 0);
        SwimLanes shut = Due.bathOf(0, 45, 2, 0, 70, 1);
        shut.shut(0, 1);
        due.is("not one that is shut", shut.look(0), 1);
        due.is("status is as it was", shut.status(0), 0);
        shut.note(0, 46, 0, 0, 0);
        due.is("no kind", shut.look(0), -1);
        due.is("none is no refusal", shut.status(0) + shut.status(1), 0);
        SwimLanes ones = Due.bathOf(0, 45, 3, 0, 70, 3, 0, 60, 3);
        ones.note(0, 45, 90, 0, 6);
        due.is("three kinds told apart by lane 3 alone", ones.look(0), 3);
        ones.note(0, 48, 90, 1, 6);
        due.is("one who overtakes, told already", ones.is(0, 0), 2);
        due.is("nothing more to tell", ones.look(0), 0);
        due.bad(x, "look(-1)", () -> x.look(-1));
        due.bad(x, "look(5)", () -> x.look(5));
    }

    /** To a it is always more not to touch, and to one who is not touched not to let by. */
    private static void touch() {
        SwimLanes x = Due.bathOf(0, 45, 2, 0, 70, 2, 0, 45, 2, 0, 45, 1);
        due.is("behind a slower one", x.touch(0, 1), 1);
        due.is("behind a quicker one", x.touch(1, 0), 1);
        due.is("behind one as quick", x.touch(0, 2), 1);
        due.no(x, "not in one lane", () -> x.touch(0, 3));
        due.bad(x, "touch(0, 0)", () -> x.touch(0, 0));
        due.bad(x, "touch(-1, 0)", () -> x.touch(-1, 0));
        due.bad(x, "touch(4, 0)", () -> x.touch(4, 0));
        due.bad(x, "touch(0, -1)", () -> x.touch(0, -1));
        due.bad(x, "touch(3, 4)", () -> x.touch(3, 4));
    }

    private static void counts() {
        SwimLanes x = new SwimLanes();
        fraction(x, 0, 0, 0, 1, 1);
        fraction(x, 0, 1, 0, 0, 1);
        fraction(x, 9, 0, 10, 1, 1);
        fraction(x, 9, 1, 10, 0, 1);
        fraction(x, 9, 9, 0, 1, 1);
        fraction(x, 8, 9, 0, 0, 1);
        fraction(x, 1, 1, 5, 1, 2);
        fraction(x, 2, 1, 5, 3, 4);
        fraction(x, 2, 1, 3, 91, 100);
        fraction(x, 3, 2, 1, 243, 250);
        fraction(x, 9, 9, 1, 387420489, 1000000000);
        fraction(x, 9, 9, 9, 1, 1000000000);
        fraction(x, 9, 9, 8, 1, 1953125);
        due.is("bath leaves it", x.bath(), 0);
        due.is("below", x.part(1), 1953125);
        due.bad(x, "counts(-1, 0, 0)", () -> x.counts(-1, 0, 0));
        due.bad(x, "counts(10, 0, 0)", () -> x.counts(10, 0, 0));
        due.bad(x, "counts(0, -1, 0)", () -> x.counts(0, -1, 0));
        due.bad(x, "counts(0, 10, 0)", () -> x.counts(0, 10, 0));
        due.bad(x, "counts(0, 0, -1)", () -> x.counts(0, 0, -1));
        due.bad(x, "counts(0, 0, 11)", () -> x.counts(0, 0, 11));
    }

    private static void fraction(SwimLanes x, int n, int k, int c, long above, long below) {
        String what = "counts(" + n + ", " + k + ", " + c + ")";
        due.is(what, x.counts(n, k, c), 1);
        due.is(what + " above", x.part(0), above);
        due.is(what + " below", x.part(1), below);
    }

    private static void mornings() {
        SwimLanes x = Due.bathOf(0, 60, 0);
        long digest = x.digest();
        due.is("one alone, wherever", x.mornings(0, 60), 60);
        due.is("none", x.mornings(999999, 0), 0);
        due.is("nothing is changed", x.digest(), digest);
        for (int seed = 0; seed < 1000000; seed += 99999) {
            morningsStepByStep(seed);
        }
        SwimLanes nobody = new SwimLanes();
        due.no(nobody, "mornings(0, 0), nobody there", () -> nobody.mornings(0, 0));
        due.bad(nobody, "mornings(-1, 0)", () -> nobody.mornings(-1, 0));
        due.bad(x, "mornings(1000000, 0)", () -> x.mornings(1000000, 0));
        due.bad(x, "mornings(0, -1)", () -> x.mornings(0, -1));
        due.bad(x, "mornings(0, 61)", () -> x.mornings(0, 61));
    }

    /** The same changes and minutes, made one by one. */
    private static void morningsStepByStep(int seed) {
        int[] five = {0, 60, 0, 3, 50, 0, 1, 20, 1, 4, 33, 3, 5, 77, 3};
        SwimLanes x = Due.bathOf(five);
        SwimLanes same = Due.bathOf(five);
        x.shut(2, 1);
        same.shut(2, 1);
        x.minute(7);
        same.minute(7);
        long drawn = seed;
        int swum = 0;
        for (int n = 1; n <= 9; n++) {
            drawn = (drawn * 1103515245L + 12345) & 0x7fffffffL;
            int p = (int) (drawn >> 16) % 5;
            drawn = (drawn * 1103515245L + 12345) & 0x7fffffffL;
            same.goes(p, (int) (drawn >> 16) % 4);
            swum += same.minute(1);
            due.is("mornings(" + seed + ", " + n + ")", x.mornings(seed, n), swum);
        }
        due.is("nobody has gone", x.lane(0, 2), 3);
    }
}
