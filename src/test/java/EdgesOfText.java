/** Promise 8, read: what the text may be, and the place of each fault that the document names. */
final class EdgesOfText {
    private static final int READ = 8;
    private static final String SEVEN = "bath;" + "one 0 20 0;".repeat(7);

    private final Edge edge;

    EdgesOfText(Edge edge) {
        this.edge = edge;
    }

    void run() {
        howManyItems();
        allStays();
        at150Bytes();
        endedBySemicolon();
        bathOnceAndFirst();
        signItem();
        shutItem();
        oneItem();
        words();
        figures();
        blanks();
        wordThatIsNone();
        bathAgain();
        aheadOfBath();
        anEighth();
        threeFigures();
        numberNotAsTold();
        aLaneThatIsShut();
        somebodyIsThere();
        byteThatBeginsNone();
        endsTooEarly();
        takesThePlace();
        keepsTheRest();
    }

    /** The text is read behind a busy bath; what is told is what is there then. */
    private SwimLanes reads(String text, int items) {
        return edge.does(() -> typed(text), "\"" + text + "\"", SwimLanes::read, items);
    }

    private void fault(String text, int place) {
        edge.asks(() -> typed(text), "\"" + text + "\"", SwimLanes::read, -10 - place);
    }

    private static SwimLanes typed(String text) {
        SwimLanes x = Baths.busy();
        Due.typeAll(x, text);
        return x;
    }

    private void howManyItems() {
        edge.says(READ, "THE BATH is read: how many ITEMS.");
        reads("bath;", 1);
        reads("bath;sign 0 0;", 2);
        reads("bath;sign 0 1;shut 3;one 0 20 0;", 4);
        reads("bath;" + "shut3;".repeat(24), 25);
        reads(SEVEN, 8);
        SwimLanes x = reads("bath;one 5 90 3;", 2);
        edge.is("read again", x.read(), 2);
        edge.is("one swimmer, not two", x.count(0), 1);
    }

    private void allStays() {
        edge.says(READ, "-10 less the FAULT: all stays.");
        fault("x", 0);
        fault("bath;x", 5);
        fault("bath;one 0 20 0;sign 3 0;shut 1;x", 32);
        fault("bath;one 0 20 0;shut 0;", 21);
        SwimLanes full = Baths.seven();
        Due.typeAll(full, "bath;one 0 20 0;one 0 20 4;");
        edge.is("seven there", full.read(), -10 - 25);
        edge.is("are there still", full.count(0), 7);
    }

    private void at150Bytes() {
        edge.says(READ, "(150 bytes at most)");
        String whole = "bath;" + " ".repeat(134) + "one 0 20 3;";
        edge.is("its length", whole.length(), 150);
        SwimLanes x = reads(whole, 2);
        edge.is("lane", x.of(0, 2), 3);
        String longer = "bath;" + " ".repeat(135) + "one 0 20 3;";
        fault(longer, 150);
        edge.is("the 151st byte was refused", typed(longer).status(2), 2);
        fault("bath;" + " ".repeat(144) + "x", 149);
        fault("bath;" + " ".repeat(144) + ";", 149);
        fault("bath;" + " ".repeat(142) + "one", 150);
        fault("bath;" + " ".repeat(141) + "sign", 150);
        fault("bath;" + " ".repeat(139) + "sign 4", 149);
        fault("bath;" + " ".repeat(137) + "sign 0 3", 149);
        fault("bath;" + " ".repeat(136) + "sign 0 1x", 149);
        fault("bath;" + " ".repeat(135) + "sign 0 111", 147);
        fault(" ".repeat(150), 150);
        fault("a".repeat(150), 0);
        fault("bath;" + "1".repeat(145), 5);
        reads("bath;" + " ".repeat(145), 1);
        reads(" ".repeat(145) + "bath;", 1);
        fault(" ".repeat(146) + "bath", 150);
    }

    private void endedBySemicolon() {
        edge.says(READ, "of ITEMS, each ended by ;");
        fault("bath", 4);
        fault("bath sign 0 0;", 5);
        fault("bath;sign 0 0", 13);
        fault("bath;sign 0 0 shut 3;", 14);
        fault("bath;sign 0 0 0;", 14);
        fault("bath;shut 3 3;", 12);
        fault("bath;one 0 20 3 3;", 16);
        fault("bath 0;", 5);
        fault("bath;;", 5);
        fault("bath;shut 3;;", 12);
        fault("bath;sign;", 9);
        fault("bath;sign 0;", 11);
        fault("bath;shut;", 9);
        fault("bath;one;", 8);
        fault("bath;one 0;", 10);
        fault("bath;one 0 20;", 13);
    }

    private void bathOnceAndFirst() {
        edge.says(READ, "bath (once, first of all)");
        reads("bath;", 1);
        fault("bath;bath;", 5);
        fault("bath;sign 0 0;bath;", 14);
        fault("sign 0 0;bath;", 0);
        fault("bath bath;", 5);
    }

    private void signItem() {
        edge.says(READ, "sign l n;");
        SwimLanes x = reads("bath;sign 0 2;sign 3 0;sign 0 1;", 4);
        int[] signs = {1, 1, 1, 0};
        for (int l = 0; l < 4; l++) {
            edge.is("sign of " + l, x.lane(l, 0), signs[l]);
        }
        fault("bath;sign 4 0;", 10);
        fault("bath;sign 0 3;", 12);
        fault("bath;sign 4 3;", 10);
    }

    private void shutItem() {
        edge.says(READ, "shut l (one in which nobody is);");
        SwimLanes x = reads("bath;shut 0;shut 3;", 3);
        edge.is("0", x.lane(0, 1), 1);
        edge.is("1", x.lane(1, 1), 0);
        edge.is("3", x.lane(3, 1), 1);
        edge.is("open ones", x.count(2), 2);
        edge.is("all four", reads("bath;shut 0;shut 1;shut 2;shut 3;", 5).count(2), 0);
        reads("bath;one 0 20 1;shut 0;", 3);
        reads("bath;shut 1;shut 1;", 3);
        fault("bath;shut 4;", 10);
        fault("bath;one 0 20 1;shut 1;", 21);
    }

    private void oneItem() {
        edge.says(READ, "one KIND PACE l.");
        SwimLanes x = reads("bath;one 0 20 0;one 5 90 3;", 3);
        edge.is("kind", x.of(0, 0), 0);
        edge.is("pace", x.of(0, 1), 20);
        edge.is("lane", x.of(0, 2), 0);
        edge.is("the other's kind", x.of(1, 0), 5);
        edge.is("the other's pace", x.of(1, 1), 90);
        edge.is("the other's lane", x.of(1, 2), 3);
        fault("bath;one 6 20 0;", 9);
        fault("bath;one 0 19 0;", 11);
        fault("bath;one 0 91 0;", 11);
        fault("bath;one 0 20 4;", 14);
        fault("bath;one 6 19 4;", 9);
        fault("bath;one 0 19 4;", 11);
    }

    private void words() {
        edge.says(READ, "words of letters a .. z");
        fault("abath;", 0);
        fault("zbath;", 0);
        fault("batha;", 0);
        fault("bathz;", 0);
        fault("`bath;", 0);
        fault("{bath;", 0);
        fault("bath`;", 4);
        fault("bath{;", 4);
        fault("Bath;", 0);
        fault("BATH;", 0);
        fault("baTh;", 0);
        fault("bath;oneA 0 20 0;", 8);
        fault("bath;onea 0 20 0;", 5);
        fault("bath;signone 0 0;", 5);
    }

    private void figures() {
        edge.says(READ, "figures (1 or 2 are one number)");
        reads("bath;sign 0 2;", 2);
        reads("bath;sign 00 02;", 2);
        SwimLanes x = reads("bath;one 05 90 03;", 2);
        edge.is("05", x.of(0, 0), 5);
        edge.is("03", x.of(0, 2), 3);
        fault("bath;sign 10 0;", 10);
        fault("bath;sign 0 1 0;", 14);
        fault("bath;one 0 2 0 1;", 11);
        fault("bath;sign 0 /;", 12);
        fault("bath;sign 0 :;", 12);
        fault("bath;sign 0 0/;", 13);
        fault("bath;sign 0 0:;", 13);
        fault("bath;sign 12;", 10);
        reads("bath;sign1 2;", 2);
    }

    private void blanks() {
        edge.says(READ, "blanks (32) between");
        reads("   bath   ;   sign   0   1   ;   ", 2);
        reads("bath;sign 0 1;", 2);
        reads("bath;one0 20 0;", 2);
        fault("ba th;", 0);
        fault("bath;sign 0\t1;", 11);
        fault("bath;\n", 5);
        fault("bath;" + (char) 31, 5);
        fault("bath;!", 5);
        fault("\tbath;", 0);
        fault("bath;" + (char) 0, 5);
    }

    private void wordThatIsNone() {
        edge.says(READ, "(a word that is none");
        fault("bat;", 0);
        fault("bathe;", 0);
        fault("xath;", 0);
        fault("batx;", 0);
        fault("bath;xign 0 0;", 5);
        fault("bath;sigx 0 0;", 5);
        fault("bath;xhut 0;", 5);
        fault("bath;shux 0;", 5);
        fault("bath;xne 0 20 0;", 5);
        fault("bath;onx 0 20 0;", 5);
        fault("bath;sig 0 0;", 5);
        fault("bath;signs 0 0;", 5);
        fault("bath;shu 0;", 5);
        fault("bath;shuts 0;", 5);
        fault("bath;on 0 20 0;", 5);
        fault("bath;ones 0 20 0;", 5);
        fault("bath; two;", 6);
        fault("bath;sign 0 0;  x", 16);
        fault("bath;sign sign 0;", 10);
        fault("bath;sign 0 sign;", 12);
        fault("bath;shut shut;", 10);
        fault("bath;one one 20 0;", 9);
        fault("bath;one 0 one 0;", 11);
        fault("bath;one 0 20 one;", 14);
        fault("bath;0;", 5);
    }

    private void bathAgain() {
        edge.says(READ, "bath again");
        fault("bath;bath;", 5);
        fault("bath; bath", 6);
        fault("bath;shut 0;bath;", 12);
        fault("bath;sign 0 bath;", 12);
    }

    private void aheadOfBath() {
        edge.says(READ, "anything ahead of it");
        fault("sign 0 0;bath;", 0);
        fault("shut 0;bath;", 0);
        fault(" one 0 20 0;bath;", 1);
        fault(";bath;", 0);
        fault("  ;bath;", 2);
        fault("0 bath;", 0);
        fault("12bath;", 0);
        fault("x bath;", 0);
        fault("-bath;", 0);
    }

    private void anEighth() {
        edge.says(READ, "an 8th one at its word");
        reads(SEVEN, 8);
        reads(SEVEN + "shut 1;", 9);
        fault(SEVEN + "one 0 20 0;", SEVEN.length());
        fault(SEVEN + "one", SEVEN.length());
        fault(SEVEN + " one 9 99 9;", SEVEN.length() + 1);
        fault(SEVEN + "shut 1;one 0 20 1;", SEVEN.length() + 7);
    }

    private void threeFigures() {
        edge.says(READ, "a run of three figures or more (at its first one)");
        fault("bath;sign 000 0;", 10);
        fault("bath;sign 0 001;", 12);
        fault("bath;sign 0 0001;", 12);
        fault("bath;shut 003;", 10);
        fault("bath;one 000 20 0;", 9);
        fault("bath;one 0 020 0;", 11);
        fault("bath;one 0 20 000;", 14);
        fault("bath;one 0 2020 0;", 11);
        fault("bath;sign 0 111", 12);
        fault("bath 123;", 5);
        fault("bath;123;", 5);
        fault("bath;sign 0 4294967296;", 12);
    }

    private void numberNotAsTold() {
        edge.says(READ, "a number not as told");
        for (int v = 0; v <= 99; v++) {
            String text = v + " ";
            tells(v <= 3, "bath;sign ", text + "0;", 2);
            tells(v <= 2, "bath;sign 3 ", text + ";", 2);
            tells(v <= 3, "bath;shut ", text + ";", 2);
            tells(v <= 5, "bath;one ", text + "20 0;", 2);
            tells(v >= 20 && v <= 90, "bath;one 0 ", text + "0;", 2);
            tells(v <= 3, "bath;one 0 20 ", text + ";", 2);
        }
        fault("bath;sign -1 0;", 10);
        fault("bath;one 0 0 0;", 11);
    }

    /** Many of them, so without a twin. */
    private void tells(boolean asTold, String ahead, String rest, int items) {
        SwimLanes x = new SwimLanes();
        Due.typeAll(x, ahead + rest);
        edge.is("\"" + ahead + rest + "\"", x.read(), asTold ? items : -10 - ahead.length());
    }

    private void aLaneThatIsShut() {
        edge.says(READ, "also a LANE that is shut");
        fault("bath;shut 0;one 0 20 0;", 21);
        fault("bath;shut 3;one 0 20 3;", 21);
        fault("bath;shut 3;one 0 20 03;", 21);
        reads("bath;shut 3;one 0 20 2;", 3);
        SwimLanes x = Baths.lane3Shut();
        Due.typeAll(x, "bath;one 0 20 3;");
        edge.is("shut only ahead of the text", x.read(), 2);
    }

    private void somebodyIsThere() {
        edge.says(READ, "one to be shut in which somebody is");
        fault("bath;one 0 20 0;shut 0;", 21);
        fault("bath;one 0 20 3;shut 2;shut 3;", 28);
        reads("bath;one 0 20 3;shut 2;shut 0;", 4);
        reads("bath;shut 0;", 2);
        edge.is("in it only ahead of the text", Baths.busy().lane(0, 2), 3);
    }

    private void byteThatBeginsNone() {
        edge.says(READ, "a byte that begins none, too)");
        for (int c = 0; c <= 127; c++) {
            boolean letter = c >= 'a' && c <= 'z';
            boolean figure = c >= '0' && c <= '9';
            withByte("bath;", c, "", c == ' ' ? 1 : -10 - 5);
            withByte("bath", c, ";", c == ' ' ? 1 : letter ? -10 : c == ';' ? -10 - 5 : -10 - 4);
            withByte("bath;sign 0 1", c, ";", c == ' ' ? 2 : figure ? -10 - 12 : c == ';' ? -10 - 14 : -10 - 13);
        }
    }

    private void withByte(String ahead, int c, String behind, int answer) {
        SwimLanes x = new SwimLanes();
        Due.typeAll(x, ahead + (char) c + behind);
        edge.is("\"" + ahead + "\", byte " + c + ", \"" + behind + "\"", x.read(), answer);
    }

    private void endsTooEarly() {
        edge.says(READ, "the TEXT's length, if it ends too early (an empty one, too).");
        fault("", 0);
        fault(" ", 1);
        fault("bath", 4);
        fault("bath ", 5);
        StringBuilder text = new StringBuilder();
        int items = 0;
        for (String token : "bath ; sign 0 2 ; shut 3 ; one 0 20 1 ;".split(" ")) {
            text.append(' ').append(token);
            if (token.equals(";")) {
                items++;
                reads(text.toString(), items);
                reads(text + "  ", items);
            } else {
                fault(text.toString(), text.length());
                fault(text + "  ", text.length() + 2);
            }
        }
        fault("bath;one 0 2", 11);
        fault("bath;sig", 5);
    }

    private void takesThePlace() {
        edge.says(READ, "A BATH that is read takes the place of all");
        SwimLanes x = Baths.sevenInLane0();
        x.minute(60);
        Due.typeAll(x, "bath;one 4 77 2;sign 2 2;shut 0;one 1 20 1;");
        edge.is("items", x.read(), 5);
        SwimLanes twin = new SwimLanes();
        Due.typeAll(twin, "bath;one 4 77 2;sign 2 2;shut 0;one 1 20 1;");
        twin.counts(3, 2, 1);
        twin.one(4, 77, 2);
        twin.sign(2, 2);
        twin.shut(0, 1);
        twin.one(1, 20, 1);
        edge.is("as if called", x.digest(), twin.digest());
        edge.says(READ, "(MINUTE 0, no LENGTHS, NOTES none; nothing to undo)");
        edge.is("minute", x.count(1), 0);
        edge.is("lengths", x.count(3), 0);
        edge.is("left over", x.of(0, 4), 0);
        edge.is("notes", x.count(4), 0);
        edge.is("that may be undone", x.count(5), 0);
        edge.is("undo", x.undo(), SwimLanes.NO);
        SwimLanes nobody = reads("bath;", 1);
        edge.is("nobody is there", nobody.count(0), 0);
        edge.is("the sign as at first", nobody.lane(2, 0), 1);
        edge.is("no lanes shut", nobody.count(2), 4);
        edge.is("an 8th may come again", nobody.one(0, 20, 0), 0);
        edge.is("all as at first for that one", nobody.of(0, 3) + nobody.of(0, 4), 0);
    }

    private void keepsTheRest() {
        edge.says(READ, "all but IMAGES, THE TEXT, THE FRACTION, STATUS");
        SwimLanes x = edge.does(Baths::busy, "read", SwimLanes::read, 3);
        edge.is("bytes", x.count(6), Baths.TEXT.length());
        edge.is("above", x.part(0), 243);
        edge.is("below", x.part(1), 250);
        edge.is("the text can be read again", x.read(), 3);
        edge.is("image 0", x.from(0), 1);
        edge.is("its swimmers", x.count(0), 5);
        edge.is("image 1", x.from(1), 1);
        edge.is("its notes", x.count(4), 2);
        edge.is("what it can undo", x.undo(), 2);
    }
}
