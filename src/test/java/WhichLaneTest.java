/** Promises 14 to 23: seconds, lengths, best, cost, where, obey, all, changes, order, apart. */
public final class WhichLaneTest {
    private static final Due due = new Due();

    public static void main(String[] args) {
        due.promise(14);
        seconds();
        due.promise(15);
        lengths();
        due.promise(16);
        best();
        due.promise(17, 18);
        costAndWhere();
        due.promise(19);
        obey();
        due.promise(20);
        all();
        due.promise(21);
        changes();
        changesAreCut();
        due.promise(22);
        order();
        due.promise(23);
        apart();
        due.end("WhichLaneTest");
    }

    private static void seconds() {
        // in lane 0: 70, 40, 50; each kind looks at it with a pace of 45
        int[] crowded = {73, 51, 73, 45, 78, 48};
        int[] withQuicker = {46, 45, 46, 45, 51, 45};
        for (int kind = 0; kind < 6; kind++) {
            SwimLanes x = Due.bathOf(0, 70, 0, 0, 40, 0, 0, 50, 0, 0, 20, 2, kind, 45, 1);
            x.shut(3, 1);
            due.is("crowded, kind " + kind, x.seconds(4, 0, 0), crowded[kind]);
            due.is("alone, kind " + kind, x.seconds(4, 1, 0), 45);
            due.is("with a quicker one, kind " + kind, x.seconds(4, 2, 0), withQuicker[kind]);
            due.is("in one that is shut, kind " + kind, x.seconds(4, 3, 0), 45);
            due.is("slower ones", x.seconds(4, 0, 1), 2);
            due.is("others", x.seconds(4, 0, 2), 3);
            due.is("others than itself", x.seconds(0, 0, 2), 2);
            due.is("none slower", x.seconds(0, 0, 1), 0);
        }
        SwimLanes alike = Due.bathOf(1, 50, 0, 1, 50, 0);
        due.is("one as slow is no slower one", alike.seconds(0, 0, 1), 0);
        due.is("half is cut", Due.bathOf(5, 20, 0, 0, 90, 0).seconds(0, 0, 0), 21);
        due.bad(alike, "seconds(-1, 0, 0)", () -> alike.seconds(-1, 0, 0));
        due.bad(alike, "seconds(2, 0, 0)", () -> alike.seconds(2, 0, 0));
        due.bad(alike, "seconds(0, -1, 0)", () -> alike.seconds(0, -1, 0));
        due.bad(alike, "seconds(0, 4, 0)", () -> alike.seconds(0, 4, 0));
        due.bad(alike, "seconds(0, 0, -1)", () -> alike.seconds(0, 0, -1));
        due.bad(alike, "seconds(0, 0, 3)", () -> alike.seconds(0, 0, 3));
    }

    private static void lengths() {
        SwimLanes x = Due.bathOf(0, 45, 0, 0, 20, 1);
        x.minute(1);
        due.is("behind none", x.lengths(0, 0), 1);
        due.is("behind one", x.lengths(0, 1), 2);
        due.is("behind two", x.lengths(0, 2), 4);
        due.is("behind 60", x.lengths(1, 60), 183);
        due.is("of the other by its own seconds", Due.bathOf(0, 20, 0, 3, 59, 0).lengths(1, 59), 60);
        SwimLanes odd = Due.bathOf(3, 60, 0, 3, 59, 0);
        odd.minute(58);
        due.is("58 are left over", odd.of(1, 4), 58);
        due.is("and make a length more", odd.lengths(1, 1), 60);
        due.is("nothing is changed", x.count(1), 1);
        due.bad(x, "lengths(-1, 0)", () -> x.lengths(-1, 0));
        due.bad(x, "lengths(2, 0)", () -> x.lengths(2, 0));
        due.bad(x, "lengths(0, -1)", () -> x.lengths(0, -1));
        due.bad(x, "lengths(0, 61)", () -> x.lengths(0, 61));
    }

    private static void best() {
        SwimLanes x = Due.bathOf(0, 30, 0, 0, 90, 0, 0, 40, 1, 0, 20, 2);
        due.is("the empty one", x.best(0), 3);
        x.shut(3, 1);
        due.is("with a quicker one", x.best(0), 2);
        x.goes(3, 1);
        x.goes(2, 2);
        due.is("with the quicker one, where it went", x.best(0), 1);
        due.is("where it is, alone", Due.bathOf(0, 30, 3, 0, 30, 0, 0, 30, 1, 0, 30, 2).best(0), 3);
        due.is("of like ones the least", Due.bathOf(3, 30, 3).best(0), 0);
        due.bad(x, "best(-1)", () -> x.best(-1));
        due.bad(x, "best(4)", () -> x.best(4));
    }

    private static void costAndWhere() {
        SwimLanes x = Due.bathOf(0, 30, 0, 1, 40, 0, 3, 50, 0, 0, 60, 1);
        // 60 in lane 0: the plain one from 52 to 63, the overtaking one from 43 to 46, the one at the wall as ever
        due.is("cost(3, 0)", x.cost(3, 0), 14);
        due.is("cost(3, 1)", x.cost(3, 1), 0);
        due.is("cost(0, 0)", x.cost(0, 0), 0);
        // without it: the plain one 41 for 52, the overtaking one 40 for 43
        due.is("cost(2, 0)", x.cost(2, 0), 14);
        due.is("where, of like ones the least", x.where(0), 0);
        due.is("where(3)", x.where(3), 1);
        x.shut(3, 1);
        x.goes(3, 0);
        x.shut(1, 1);
        due.is("where, not in one that is shut", x.where(3), 2);
        due.no(x, "cost(0, 3)", () -> x.cost(0, 3));
        due.bad(x, "cost(-1, 0)", () -> x.cost(-1, 0));
        due.bad(x, "cost(4, 3)", () -> x.cost(4, 3));
        due.bad(x, "cost(0, -1)", () -> x.cost(0, -1));
        due.bad(x, "cost(0, 4)", () -> x.cost(0, 4));
        due.bad(x, "where(-1)", () -> x.where(-1));
        due.bad(x, "where(4)", () -> x.where(4));
    }

    private static void obey() {
        SwimLanes x = Due.bathOf(0, 60, 0, 0, 59, 0, 0, 59, 1, 0, 40, 2, 0, 39, 3, 0, 40, 3, 2, 54, 3);
        due.is("obey(0)", x.obey(0), 1 + 4 + 8 + 16);
        due.is("obey(1): he believes he's fast", x.obey(1), 1 + 4 + 8 + 16 + 64);
        SwimLanes proud = Due.bathOf(2, 60, 0, 4, 75, 0, 5, 44, 3, 5, 45, 1);
        due.is("obey(0) of these", proud.obey(0), 1 + 2 + 8);
        due.is("obey(1) of these", proud.obey(1), 2 + 4 + 8);
        x.sign(0, 1);
        due.is("by the sign as it is", x.obey(0), 2 + 4 + 8 + 16);
        due.is("nobody there", new SwimLanes().obey(0), 0);
        due.bad(x, "obey(-1)", () -> x.obey(-1));
        due.bad(x, "obey(2)", () -> x.obey(2));
    }

    private static void all() {
        SwimLanes x = new SwimLanes();
        due.is("nobody", x.all(-1), 0);
        due.refused(x, "all(0), nobody there", () -> x.all(0), -10, 0);
        due.refused(x, "all(-2)", () -> x.all(-2), -10, 0);
        x.shut(0, 1);
        x.shut(2, 1);
        x.one(0, 30, 3);
        x.one(0, 90, 3);
        x.one(0, 32, 3);
        due.is("three in two lanes", x.all(-1), 33 + 33 + 90);
        due.is("of 0", x.all(0), 1);
        due.is("of 1", x.all(1), 3);
        due.is("of 2", x.all(2), 1);
        due.is("nobody has gone", x.lane(3, 2), 7);
        due.refused(x, "all(3)", () -> x.all(3), -10, 0);
        SwimLanes walls = Due.bathOf(3, 20, 3, 3, 30, 2, 3, 40, 1);
        due.is("at the wall", walls.all(-1), 90);
        for (int p = 0; p < 3; p++) {
            due.is("at the wall, the first way", walls.all(p), 0);
        }
        SwimLanes seven = new SwimLanes();
        for (int p = 0; p < 7; p++) {
            seven.one(0, 50, 0);
        }
        due.is("seven alike", seven.all(-1), 7 * 50 + 2 + 2 + 2);
        int[] lanes = {0, 0, 1, 1, 2, 2, 3};
        for (int p = 0; p < 7; p++) {
            due.is("of seven alike, " + p, seven.all(p), lanes[p]);
        }
    }

    private static void changes() {
        SwimLanes x = new SwimLanes();
        due.is("nobody", x.changes(-1), 0);
        due.refused(x, "changes(0), nobody there", () -> x.changes(0), -10, 0);
        due.refused(x, "changes(-2)", () -> x.changes(-2), -10, 0);
        x.one(0, 30, 0);
        x.one(0, 30, 0);
        x.one(0, 30, 0);
        due.is("two go", x.changes(-1), 2);
        due.is("of 0", x.changes(0), 1);
        due.is("of 1", x.changes(1), 2);
        due.is("of 2", x.changes(2), 0);
        due.is("nobody has gone", x.lane(0, 2), 7);
        due.is("only the last one would", Due.bathOf(3, 30, 0, 0, 40, 0).changes(-1), 1);
        due.refused(x, "changes(3)", () -> x.changes(3), -10, 0);
    }

    /** Six in two lanes who never come to rest: the 60th change is the last, in the midst of a round. */
    private static void changesAreCut() {
        int[] six = {5, 33, 1, 1, 35, 1, 2, 45, 1, 1, 42, 1, 4, 60, 0, 0, 64, 0};
        SwimLanes x = Due.bathOf(six);
        Model model = new Model();
        for (int i = 0; i < six.length; i += 3) {
            model.call("one", six[i], six[i + 1], six[i + 2]);
        }
        for (int l = 2; l < 4; l++) {
            x.shut(l, 1);
            model.call("shut", l, 1);
        }
        due.is("60 at most", x.changes(-1), 60);
        for (int p = 0; p < 6; p++) {
            due.is("lane of " + p + " then", x.changes(p), model.call("changes", p));
        }
    }

    private static void order() {
        SwimLanes x = Due.bathOf(0, 50, 0, 3, 40, 0, 1, 60, 0, 0, 20, 1);
        due.is("no seconds apart: by pace alone", x.order(0, 0, 1, -1), 1);
        due.is("first", x.order(0, 0, 1, 0), 1);
        due.is("second", x.order(0, 0, 1, 1), 0);
        due.is("third", x.order(0, 0, 1, 2), 2);
        due.is("not so many", x.order(0, 0, 1, 3), -5);
        due.is("nor so many", x.order(0, 0, 1, Integer.MAX_VALUE), -5);
        due.is("10 apart", x.order(0, 10, 1, -1), 4);
        due.is("9 apart", x.order(0, 9, 1, -1), 1);
        due.is("10 apart, two lengths", x.order(0, 10, 2, -1), 1);
        due.is("20 apart", x.order(0, 20, 1, -1), 6);
        due.is("20 apart, the first", x.order(0, 20, 1, 0), 0);
        due.is("20 apart, the second", x.order(0, 20, 1, 1), 1);
        due.is("one alone", x.order(1, 0, 9, -1), 1);
        due.is("one alone, the first", x.order(1, 0, 9, 0), 3);
        x.shut(3, 1);
        due.is("of nobody: one", x.order(3, 60, 9, -1), 1);
        due.is("of nobody: not so many", x.order(3, 60, 9, 0), -5);
        due.is("status is as it was", x.status(0), 0);
        int[][] wrong = {{-1, 0, 1, 0}, {4, 0, 1, 0}, {0, -1, 1, 0}, {0, 61, 1, 0}, {0, 0, 0, 0}, {0, 0, 10, 0},
            {0, 0, 1, -2}, {0, 0, 10, 9}};
        for (int[] w : wrong) {
            due.refused(x, "order of " + w[0] + " " + w[1] + " " + w[2] + " " + w[3],
                () -> x.order(w[0], w[1], w[2], w[3]), -10, 0);
        }
        SwimLanes alike = Due.bathOf(0, 50, 2, 0, 50, 2, 0, 40, 2);
        due.is("two alike", alike.order(2, 0, 9, -1), 2);
        due.is("of two alike the first", alike.order(2, 0, 9, 1), 0);
        SwimLanes steps = Due.bathOf(0, 60, 0, 0, 20, 0, 0, 40, 0, 0, 90, 0);
        due.is("40 must be between", steps.order(0, 20, 1, -1), 4);
        int[] first = {0, 2, 1, 3};
        for (int i = 0; i < 4; i++) {
            due.is("40 between, place " + i, steps.order(0, 20, 1, i), first[i]);
        }
        SwimLanes seven = new SwimLanes();
        for (int p = 0; p < 7; p++) {
            seven.one(p % 6, 20 + p, 0);
        }
        due.is("7 of 7", seven.order(0, 60, 9, -1), 5040);
        due.is("one order by pace", seven.order(0, 0, 1, -1), 1);
    }

    private static void apart() {
        SwimLanes x = Due.bathOf(0, 50, 0, 3, 40, 0, 1, 60, 0, 0, 45, 0, 0, 90, 1, 0, 20, 1);
        due.is("apart(0, 1)", x.apart(0, 1), 15);
        due.is("apart(0, 9)", x.apart(0, 9), 135);
        due.is("apart(1, 8)", x.apart(1, 8), 560);
        due.is("only more", x.apart(1, 9), -1);
        due.is("none is no refusal", x.status(0) + x.status(1) + x.status(2), 0);
        due.is("nobody", x.apart(2, 9), 0);
        due.is("594 of 600", Due.bathOf(0, 90, 0, 0, 24, 0).apart(0, 9), 594);
        due.is("603 are more", Due.bathOf(0, 90, 0, 0, 23, 0).apart(0, 9), -1);
        due.is("rising paces", Due.bathOf(0, 30, 0, 0, 90, 0).apart(0, 9), 0);
        due.bad(x, "apart(-1, 1)", () -> x.apart(-1, 1));
        due.bad(x, "apart(4, 1)", () -> x.apart(4, 1));
        due.bad(x, "apart(0, 0)", () -> x.apart(0, 0));
        due.bad(x, "apart(0, 10)", () -> x.apart(0, 10));
    }
}
