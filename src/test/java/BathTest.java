/** Promises 1 to 8: a new object, bath, sign, shut, one, type, clear, read. */
public final class BathTest {
    private static final Due due = new Due();

    public static void main(String[] args) {
        due.promise(1);
        newObject();
        due.promise(2);
        bath();
        due.promise(3);
        sign();
        due.promise(4);
        shut();
        due.promise(5);
        one();
        due.promise(6, 7);
        typeAndClear();
        due.promise(8);
        readsABath();
        faults();
        endsOfTheText();
        readTakesThePlace();
        due.end("BathTest");
    }

    private static void newObject() {
        SwimLanes x = new SwimLanes();
        for (int what = 0; what <= 6; what++) {
            due.is("new: count " + what, x.count(what), what == 2 ? 4 : 0);
        }
        int[] signs = {0, 1, 1, 2};
        for (int l = 0; l < 4; l++) {
            due.is("new: sign of " + l, x.lane(l, 0), signs[l]);
            due.is("new: shut " + l, x.lane(l, 1), 0);
            due.is("new: who is in " + l, x.lane(l, 2), 0);
        }
        due.is("new: above", x.part(0), 0);
        due.is("new: below", x.part(1), 1);
        for (int what = 0; what < 3; what++) {
            due.is("new: status " + what, x.status(what), 0);
        }
        due.no(x, "new: from(0)", () -> x.from(0));
        due.no(x, "new: from(1)", () -> x.from(1));
        due.no(x, "new: undo", x::undo);
    }

    private static void bath() {
        SwimLanes fresh = new SwimLanes();
        SwimLanes x = Due.bathOf(0, 30, 0, 4, 50, 1);
        x.sign(0, 2);
        x.shut(3, 1);
        x.minute(5);
        x.goes(0, 1);
        x.note(0, 30, 0, 0, 0);
        x.image(0);
        x.counts(1, 1, 5);
        x.type('b');
        x.undo();
        x.sign(9, 9);
        due.is("bath()", x.bath(), 2);
        for (int what = 0; what <= 5; what++) {
            due.is("bath, then count " + what, x.count(what), fresh.count(what));
        }
        due.is("bath, then sign", x.lane(0, 0), 0);
        due.is("bath, then shut", x.lane(3, 1), 0);
        due.is("bath keeps the text", x.count(6), 1);
        due.is("bath keeps the fraction", x.part(1), 2);
        due.is("bath keeps status", x.status(0), 1);
        due.is("bath keeps images", x.from(0), 1);
        due.is("the image's swimmers", x.count(0), 2);
        due.is("bath() of two", x.bath(), 2);
        due.is("bath() of nobody", x.bath(), 0);
        due.is("one comes as 0 again", x.one(0, 20, 0), 0);
        due.is("without lengths", x.of(0, 3), 0);
        due.is("without seconds", x.of(0, 4), 0);
    }

    private static void sign() {
        SwimLanes x = Due.bathOf(0, 30, 0);
        x.minute(1);
        due.is("sign(3, 0)", x.sign(3, 0), 2);
        due.is("sign(3, 1)", x.sign(3, 1), 0);
        due.is("lane(3, 0)", x.lane(3, 0), 1);
        due.is("a sign leaves what may be undone", x.count(5), 1);
        x.undo();
        due.is("a sign is not undone", x.lane(3, 0), 1);
        x.shut(2, 1);
        due.is("sign of one that is shut", x.sign(2, 2), 1);
        due.bad(x, "sign(-1, 0)", () -> x.sign(-1, 0));
        due.bad(x, "sign(4, 0)", () -> x.sign(4, 0));
        due.bad(x, "sign(0, -1)", () -> x.sign(0, -1));
        due.bad(x, "sign(0, 3)", () -> x.sign(0, 3));
        due.bad(x, "sign(4, 3) counts once", () -> x.sign(4, 3));
    }

    private static void shut() {
        SwimLanes x = Due.bathOf(0, 30, 0);
        x.minute(1);
        due.no(x, "shut(0, 1)", () -> x.shut(0, 1));
        due.is("refused, it leaves what may be undone", x.count(5), 1);
        due.is("shut(1, 1)", x.shut(1, 1), 0);
        due.is("nothing may be undone behind it", x.count(5), 0);
        due.is("shut(1, 1) again", x.shut(1, 1), 1);
        due.is("lane(1, 1)", x.lane(1, 1), 1);
        due.is("open ones", x.count(2), 3);
        x.minute(1);
        due.is("shut(1, 0)", x.shut(1, 0), 1);
        due.is("nothing may be undone behind one opened", x.count(5), 0);
        due.is("shut(0, 0), somebody in it", x.shut(0, 0), 0);
        due.bad(x, "shut(-1, 0)", () -> x.shut(-1, 0));
        due.bad(x, "shut(4, 1)", () -> x.shut(4, 1));
        due.bad(x, "shut(0, 2)", () -> x.shut(0, 2));
        due.bad(x, "shut(0, -1)", () -> x.shut(0, -1));
    }

    private static void one() {
        SwimLanes x = new SwimLanes();
        x.shut(3, 1);
        x.minute(1);
        due.is("one(5, 90, 2)", x.one(5, 90, 2), 0);
        due.is("nothing may be undone behind one that comes", x.count(5), 0);
        due.is("its kind", x.of(0, 0), 5);
        due.is("its pace", x.of(0, 1), 90);
        due.is("its lane", x.of(0, 2), 2);
        due.bad(x, "one(-1, 20, 0)", () -> x.one(-1, 20, 0));
        due.bad(x, "one(6, 20, 0)", () -> x.one(6, 20, 0));
        due.bad(x, "one(0, 19, 0)", () -> x.one(0, 19, 0));
        due.bad(x, "one(0, 91, 0)", () -> x.one(0, 91, 0));
        due.bad(x, "one(0, 20, -1)", () -> x.one(0, 20, -1));
        due.bad(x, "one(0, 20, 4)", () -> x.one(0, 20, 4));
        due.no(x, "one(0, 20, 3)", () -> x.one(0, 20, 3));
        for (int p = 1; p < 7; p++) {
            due.is("one " + p, x.one(p - 1, 20, 0), p);
        }
        due.full(x, "an 8th one", () -> x.one(0, 20, 0));
        due.no(x, "an 8th one in a lane that is shut", () -> x.one(0, 20, 3));
        due.bad(x, "an 8th one of no kind", () -> x.one(6, 20, 3));
    }

    private static void typeAndClear() {
        SwimLanes x = new SwimLanes();
        due.bad(x, "type(-1)", () -> x.type(-1));
        due.bad(x, "type(128)", () -> x.type(128));
        due.is("type(0)", x.type(0), 1);
        due.is("type(127)", x.type(127), 2);
        due.is("clear()", x.clear(), 2);
        due.is("clear() again", x.clear(), 0);
        for (int i = 1; i <= 150; i++) {
            due.is("byte " + i, x.type(' '), i);
        }
        due.full(x, "a 151st byte", () -> x.type(' '));
        due.bad(x, "a 151st byte that is none", () -> x.type(128));
        due.is("150 blanks end too early", x.read(), -160);
        due.is("clear() of 150", x.clear(), 150);
    }

    private static void readsABath() {
        SwimLanes x = new SwimLanes();
        reads(x, "bath;", 1);
        reads(x, "  bath  ;  ", 1);
        reads(x, "bath;sign2 0;shut 3;one0 55 1;", 4);
        due.is("sign read", x.lane(2, 0), 0);
        due.is("shut read", x.lane(3, 1), 1);
        due.is("one read", x.of(0, 1), 55);
        due.is("its lane", x.of(0, 2), 1);
        reads(x, "bath;sign 00 02;shut 01;one 05 90 03;", 4);
        due.is("two figures are one number", x.of(0, 0), 5);
        reads(x, "bath;shut 1;shut 1;sign 1 2;", 4);
        reads(x, "bath;one 0 20 0;one 1 30 1;one 2 40 2;one 3 50 3;one 4 60 0;one 5 70 1;one 0 90 2;", 8);
        due.is("seven read", x.count(0), 7);
        reads(x, "bath;one 0 20 0;shut 1;sign 0 0;", 4);
        due.is("what was there is gone", x.count(0), 1);
        due.is("the text stays", x.clear(), 32);
    }

    private static void reads(SwimLanes x, String text, int items) {
        Due.typeAll(x, text);
        due.is("read of \"" + text + "\"", x.read(), items);
    }

    private static void faults() {
        fault("", 0);
        fault("   ", 3);
        fault("bath", 4);
        fault("bath  ", 6);
        fault("bat;", 0);
        fault("bathe;", 0);
        fault("xath;", 0);
        fault("bathz;", 0);
        fault("`bath;", 0);
        fault("bath{;", 4);
        fault("bath;sign 0 /;", 12);
        fault("bath;sign 0 1:", 13);
        fault(";", 0);
        fault(" 12;", 1);
        fault("sign 0 0;", 0);
        fault("one 0 20 0;bath;", 0);
        fault("bath bath;", 5);
        fault("bath;bath;", 5);
        fault("bath;;", 5);
        fault("bath; Bath;", 6);
        fault("bath;\n", 5);
        fault("bath;sign", 9);
        fault("bath;sign 0", 11);
        fault("bath;sign 0 1", 13);
        fault("bath;sign 4 0;", 10);
        fault("bath;sign 0 3;", 12);
        fault("bath;sign 0 one;", 12);
        fault("bath;sign 0;", 11);
        fault("bath;sign 0 1 2;", 14);
        fault("bath;sign 000 1;", 10);
        fault("bath;sign 0-1;", 11);
        fault("bath;shut 4;", 10);
        fault("bath;one 0 20 1;shut 1;", 21);
        fault("bath;shut 1;one 0 20 1;", 21);
        fault("bath;one 6 20 1;", 9);
        fault("bath;one 0 19 1;", 11);
        fault("bath;one 0 91 1;", 11);
        fault("bath;one 0 020 1;", 11);
        fault("bath;one 0 2 0 1;", 11);
        fault("bath;one 0 20 4;", 14);
        fault("bath;one 0 20 1 one", 16);
        fault("bath;one 0 20 0" + (char) 127 + ";", 15);
        fault("bath;two 0 20 1;", 5);
        StringBuilder seven = new StringBuilder("bath;");
        for (int p = 0; p < 7; p++) {
            seven.append("one 0 20 0;");
        }
        fault(seven + " one", seven.length() + 1);
        fault(seven + "ones", seven.length());
    }

    /** What was typed ahead of clear(), or lies behind the 150th byte, is no text. */
    private static void endsOfTheText() {
        SwimLanes x = new SwimLanes();
        Due.typeAll(x, "bath;sign 0 1;sign 1 2;");
        Due.typeAll(x, "bath;sign 0 1");
        due.is("what was typed before is gone", x.read(), -10 - 13);
        Due.typeAll(x, "bath;sig");
        due.is("a word is not longer than the text", x.read(), -10 - 5);
        Due.typeAll(x, "bath;");
        due.is("an item", x.read(), 1);
        String blanks = " ".repeat(132) + "bath;";
        String[] last = {"sign 0 1    ;", "sign 0       ", "sign 0      1", "shut        2", "          one",
            "sign 0      9", "         sign", "sign 0 1;shu;", "sign 0 111111"};
        int[] answers = {2, -160, -160, -160, -160, -10 - 149, -160, -10 - 146, -10 - 144};
        for (int i = 0; i < last.length; i++) {
            SwimLanes full = new SwimLanes();
            Due.typeAll(full, blanks + last[i]);
            due.is("150 bytes", full.count(6), 150);
            due.is("150 bytes, the last \"" + last[i] + "\"", full.read(), answers[i]);
        }
    }

    private static void fault(String text, int place) {
        SwimLanes x = Due.bathOf(3, 44, 2);
        x.minute(1);
        Due.typeAll(x, text);
        due.refused(x, "read of \"" + text + "\"", x::read, -10 - place, -1);
        due.is("what may be undone stays", x.undo(), 0);
    }

    private static void readTakesThePlace() {
        SwimLanes x = Due.bathOf(0, 30, 0);
        x.image(1);
        x.minute(7);
        x.note(0, 30, 0, 0, 0);
        x.sign(0, 2);
        x.shut(2, 1);
        x.goes(0, 1);
        x.counts(1, 1, 5);
        x.undo();
        x.undo();
        x.undo();
        reads(x, "bath;one 1 40 2;", 2);
        due.is("read, then minute", x.count(1), 0);
        due.is("read, then open lanes", x.count(2), 4);
        due.is("read, then lengths", x.count(3), 0);
        due.is("read, then notes", x.count(4), 0);
        due.is("read, then undoable", x.count(5), 0);
        due.is("read, then text", x.count(6), 16);
        due.is("read, then sign", x.lane(0, 0), 0);
        due.is("read, then left over", x.of(0, 4), 0);
        due.is("read, then fraction", x.part(1), 2);
        due.is("read, then status", x.status(1), 2);
        due.is("read, then images", x.from(1), 1);
        due.is("the image's pace", x.of(0, 1), 30);
    }
}
