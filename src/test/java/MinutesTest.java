/** Promises 9 to 13: goes, minute, undo, of, lane. */
public final class MinutesTest {
    private static final Due due = new Due();

    public static void main(String[] args) {
        due.promise(9);
        goes();
        due.promise(10);
        minute();
        leftOverInAQuickerLane();
        lastMinute();
        due.promise(11);
        undo();
        undoIsCut();
        due.promise(12);
        of();
        due.promise(13);
        lane();
        due.end("MinutesTest");
    }

    private static void goes() {
        SwimLanes x = Due.bathOf(0, 30, 0, 0, 40, 1);
        x.shut(3, 1);
        due.is("goes(0, 2)", x.goes(0, 2), 0);
        due.is("goes(0, 1)", x.goes(0, 1), 2);
        due.is("where it is", x.of(0, 2), 1);
        due.is("goes(0, 1), where it is", x.goes(0, 1), 1);
        due.is("all three may be undone", x.count(5), 3);
        due.bad(x, "goes(-1, 0)", () -> x.goes(-1, 0));
        due.bad(x, "goes(2, 0)", () -> x.goes(2, 0));
        due.bad(x, "goes(0, -1)", () -> x.goes(0, -1));
        due.bad(x, "goes(0, 4)", () -> x.goes(0, 4));
        due.no(x, "goes(0, 3)", () -> x.goes(0, 3));
        due.bad(x, "goes(2, 3)", () -> x.goes(2, 3));
    }

    private static void minute() {
        SwimLanes x = Due.bathOf(0, 45, 0);
        due.is("minute(1)", x.minute(1), 1);
        due.is("left over", x.of(0, 4), 15);
        due.is("minute(3)", x.minute(3), 4);
        due.is("left over", x.of(0, 4), 15);
        due.is("lengths", x.of(0, 3), 5);
        due.is("the minute", x.count(1), 4);
        due.is("two that may be undone", x.count(5), 2);
        due.bad(x, "minute(0)", () -> x.minute(0));
        due.bad(x, "minute(-1)", () -> x.minute(-1));
        due.bad(x, "minute(61)", () -> x.minute(61));
        SwimLanes nobody = new SwimLanes();
        due.is("minute(60), nobody there", nobody.minute(60), 0);
        due.is("the minute then", nobody.count(1), 60);
        SwimLanes two = Due.bathOf(0, 30, 0, 4, 45, 0);
        due.is("46 and 51 seconds", two.minute(1), 2);
        due.is("left of 46", two.of(0, 4), 14);
        due.is("left of 51", two.of(1, 4), 9);
    }

    private static void leftOverInAQuickerLane() {
        SwimLanes x = Due.bathOf(0, 20, 0, 3, 90, 0);
        due.is("none in 91 seconds", x.minute(1), 0);
        x.goes(0, 1);
        due.is("without a minute none", x.lengths(0, 0), 0);
        due.is("60 left and 60 by 20", x.lengths(0, 1), 6);
        due.is("and 120 by 90", x.minute(1), 7);
        due.is("nothing left", x.of(0, 4), 0);
    }

    private static void lastMinute() {
        SwimLanes x = Due.bathOf(0, 60, 0);
        for (int i = 0; i < 16; i++) {
            x.minute(60);
        }
        due.is("only 39 go by", x.minute(60), 39);
        due.is("the minute", x.count(1), 999);
        due.is("none goes by", x.minute(9), 0);
        due.is("the minute", x.count(1), 999);
        due.is("lengths", x.of(0, 3), 999);
        due.is("lengths beyond 999", x.lengths(0, 60), 1059);
        due.is("mornings end there, too", x.mornings(1, 60), 0);
        due.is("undo of none", x.undo(), 999);
        due.is("undo of 39", x.undo(), 960);
        due.is("mornings till then", x.mornings(1, 60), 39);
    }

    private static void undo() {
        SwimLanes x = Due.bathOf(0, 30, 0, 5, 50, 0);
        x.minute(2);
        long first = x.digest();
        x.goes(1, 3);
        long second = x.digest();
        x.minute(60);
        due.is("undo minutes", x.undo(), 2);
        due.is("as ahead of them", x.digest(), second);
        due.is("undo a change", x.undo(), 2);
        due.is("as ahead of it", x.digest(), first);
        due.is("undo", x.undo(), 0);
        due.is("no lengths", x.count(3), 0);
        due.no(x, "undo()", x::undo);
        x.note(0, 1, 0, 0, 0);
        x.sign(0, 2);
        x.minute(1);
        x.forget();
        x.undo();
        due.is("notes are not undone", x.count(4), 0);
        due.is("signs are not undone", x.lane(0, 0), 2);
    }

    private static void undoIsCut() {
        SwimLanes x = Due.bathOf(0, 30, 0);
        for (int i = 0; i < 11; i++) {
            x.minute(1);
        }
        due.is("8 at most", x.count(5), 8);
        for (int i = 0; i < 8; i++) {
            due.is("undo", x.undo(), 10 - i);
            due.is("lengths", x.of(0, 3), 2 * (10 - i));
        }
        due.no(x, "undo()", x::undo);
        x.minute(1);
        x.one(0, 20, 0);
        due.no(x, "undo() behind one that comes", x::undo);
        x.minute(1);
        x.shut(1, 1);
        due.no(x, "undo() behind a lane shut", x::undo);
        x.minute(1);
        x.shut(1, 0);
        due.no(x, "undo() behind a lane opened", x::undo);
    }

    private static void of() {
        int[] believed = {50, 50, 35, 50, 35, 45};
        SwimLanes x = new SwimLanes();
        for (int kind = 0; kind < 6; kind++) {
            x.one(kind, 50, kind % 4);
            due.is("kind", x.of(kind, 0), kind);
            due.is("pace", x.of(kind, 1), 50);
            due.is("lane", x.of(kind, 2), kind % 4);
            due.is("believes", x.of(kind, 5), believed[kind]);
        }
        x.minute(3);
        due.is("lengths of 1", x.of(1, 3), 3);
        due.is("left of 1", x.of(1, 4), 30);
        due.bad(x, "of(-1, 0)", () -> x.of(-1, 0));
        due.bad(x, "of(6, 0)", () -> x.of(6, 0));
        due.bad(x, "of(0, -1)", () -> x.of(0, -1));
        due.bad(x, "of(0, 6)", () -> x.of(0, 6));
    }

    private static void lane() {
        SwimLanes x = Due.bathOf(0, 30, 0, 0, 30, 2, 0, 30, 0);
        x.shut(1, 1);
        due.is("who is in 0", x.lane(0, 2), 5);
        due.is("who is in 1", x.lane(1, 2), 0);
        due.is("who is in 2", x.lane(2, 2), 2);
        due.is("shut", x.lane(1, 1), 1);
        due.is("open", x.lane(0, 1), 0);
        due.is("sign", x.lane(3, 0), 2);
        due.bad(x, "lane(-1, 0)", () -> x.lane(-1, 0));
        due.bad(x, "lane(4, 0)", () -> x.lane(4, 0));
        due.bad(x, "lane(0, -1)", () -> x.lane(0, -1));
        due.bad(x, "lane(0, 3)", () -> x.lane(0, 3));
    }
}
