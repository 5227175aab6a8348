/** Baths from which the boundary cases begin: each has something in every place that a call could wrongly change. */
final class Baths {
    static final String TEXT = "bath;one 0 20 0;shut 1;";

    private Baths() {
    }

    static SwimLanes fresh() {
        return new SwimLanes();
    }

    /**
     * Five of them, nobody in lane 3, which is open: 0 PLAIN 45 and 1 OVERTAKES 70 in lane 0, 2 SPRINTS 33 and 3 WALL
     * 52 in lane 1, 4 CHATS 80 in lane 2. A length takes them 71, 70, 34, 52, 80 seconds. MINUTE 5; lengths 4, 4, 8,
     * 5, 3; left over 16, 20, 28, 40, 60. Four may be undone; two notes; both images; 243 by 250; STATUS 1, 1, 1.
     */
    static SwimLanes busy() {
        SwimLanes x = Due.bathOf(0, 45, 0, 1, 70, 0, 5, 33, 1, 3, 52, 1, 4, 80, 2);
        x.minute(2);
        x.image(0);
        x.sign(2, 0);
        x.goes(0, 1);
        x.goes(0, 0);
        for (int i = 0; i < 7; i++) {
            x.note(4, 80, 0, 0, 0);
        }
        x.forget();
        x.note(0, 71, 70, 1, 1);
        x.note(2, 34, 52, 1, 1);
        x.image(1);
        x.minute(3);
        x.counts(3, 2, 1);
        Due.typeAll(x, TEXT);
        x.status(9);
        x.touch(0, 4);
        return x;
    }

    /** Busy, but lane 3 is shut; two may be undone. */
    static SwimLanes lane3Shut() {
        SwimLanes x = busy();
        x.shut(3, 1);
        x.minute(1);
        x.goes(4, 1);
        return x;
    }

    /** Busy, and seven: 5 PROUD 60 in lane 2, 6 PLAIN 20 in lane 3; one may be undone. */
    static SwimLanes seven() {
        SwimLanes x = busy();
        x.one(2, 60, 2);
        x.one(0, 20, 3);
        x.minute(1);
        return x;
    }

    /** Seven, but lane 3 is shut, and all but lane 0 are empty. */
    static SwimLanes sevenInLane0() {
        SwimLanes x = seven();
        for (int p = 2; p < 7; p++) {
            x.goes(p, 0);
        }
        x.shut(3, 1);
        x.minute(2);
        return x;
    }

    static SwimLanes notesFull() {
        SwimLanes x = busy();
        for (int i = 0; i < 4; i++) {
            x.note(3, 52, 10 * i, 0, i);
        }
        return x;
    }

    static SwimLanes textFull() {
        SwimLanes x = busy();
        for (int i = TEXT.length(); i < 150; i++) {
            x.type(' ');
        }
        return x;
    }

    /** Busy, but nobody is there any more: MINUTE 7, one that may be undone, lane 2 shut. */
    static SwimLanes nobody() {
        SwimLanes x = busy();
        x.bath();
        x.shut(2, 1);
        x.sign(0, 2);
        x.minute(7);
        return x;
    }

    /** Two of 60 and 50 seconds, WALL ones; so many MINUTES, so many LENGTHS of the first. */
    static SwimLanes atMinute(int minute) {
        SwimLanes x = Due.bathOf(3, 60, 0, 3, 50, 1);
        for (int left = minute; left > 0; left -= Math.min(left, 60)) {
            x.minute(Math.min(left, 60));
        }
        return x;
    }
}
