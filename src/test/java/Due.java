import java.util.function.LongSupplier;

/** What the tests share: answers that are due, and calls that must be refused. */
final class Due {
    private int wrong = 0;
    private int looked = 0;
    private String promise = "";

    /** The numbers of the promises that are tested from here on; each wrong answer is told with them. */
    void promise(int... numbers) {
        StringBuilder text = new StringBuilder("Promise");
        for (int number : numbers) {
            text.append(' ').append(number);
        }
        promise = text.append(": ").toString();
    }

    void is(String what, long got, long want) {
        looked++;
        if (got != want) {
            wrong++;
            System.out.println(promise + what + " answered " + got + ", due is " + want);
        }
    }

    void holds(String what, boolean held) {
        is(what, held ? 1 : 0, 1);
    }

    void bad(SwimLanes x, String what, LongSupplier call) {
        refused(x, what, call, SwimLanes.BAD, 0);
    }

    void no(SwimLanes x, String what, LongSupplier call) {
        refused(x, what, call, SwimLanes.NO, 1);
    }

    void full(SwimLanes x, String what, LongSupplier call) {
        refused(x, what, call, SwimLanes.FULL, 2);
    }

    /** A refused call answers so, counts once by its reason, and changes nothing else. */
    void refused(SwimLanes x, String what, LongSupplier call, long want, int reason) {
        int[] counted = counted(x);
        long digest = x.digest();
        is(what, call.getAsLong(), want);
        if (reason >= 0) {
            counted[reason]++;
        }
        is(what + ", then digest", x.digest(), digest);
        for (int i = 0; i < 3; i++) {
            is(what + ", then status " + i, x.status(i), counted[i]);
        }
    }

    private static int[] counted(SwimLanes x) {
        return new int[] {x.status(0), x.status(1), x.status(2)};
    }

    void end(String test) {
        System.out.println(test + ": " + looked + " answers looked at, " + wrong + " wrong");
        if (wrong != 0) {
            System.exit(1);
        }
    }

    static void typeAll(SwimLanes x, String text) {
        x.clear();
        for (int i = 0; i < text.length(); i++) {
            x.type(text.charAt(i));
        }
    }

    /** Kind, pace, lane; kind, pace, lane .. */
    static SwimLanes bathOf(int... triples) {
        SwimLanes x = new SwimLanes();
        for (int i = 0; i + 2 < triples.length; i += 3) {
            x.one(triples[i], triples[i + 1], triples[i + 2]);
        }
        return x;
    }
}
