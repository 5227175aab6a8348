import java.util.List;
import java.util.TreeSet;
import java.util.function.Supplier;
import java.util.function.ToLongFunction;

/**
 * Boundary cases, each under its promise's number and the document's own words. What a call leaves as it was is seen
 * by a twin, made in the same way, on which the call is not made.
 */
final class Edge {
    /** A call with one number left open. */
    interface With {
        long call(SwimLanes x, int number);
    }

    static final int TERMS = 0;
    private static final int NOT_REFUSED = -1;

    private final Due due = new Due();
    private final TreeSet<Integer> promises = new TreeSet<>();
    private int sentences = 0;
    private String saying = "";

    /** What is tested from here on are these words of the document. */
    void says(int promise, String words) {
        saying = (promise == TERMS ? "Terms" : "Promise " + promise) + ", \"" + words + "\": ";
        promises.add(promise);
        sentences++;
    }

    void is(String what, long got, long want) {
        due.is(saying + what, got, want);
    }

    /** Not refused: it answers so, and STATUS stays. What it changes is looked at by the caller, in what is returned. */
    SwimLanes does(Supplier<SwimLanes> made, String what, ToLongFunction<SwimLanes> call, long want) {
        SwimLanes x = made.get();
        is(what, call.applyAsLong(x), want);
        status(what, x, made.get(), NOT_REFUSED);
        return x;
    }

    /** Not refused, and nothing at all is changed. */
    void asks(Supplier<SwimLanes> made, String what, ToLongFunction<SwimLanes> call, long want) {
        answersAndStays(made, what, call, want, NOT_REFUSED);
    }

    void bad(Supplier<SwimLanes> made, String what, ToLongFunction<SwimLanes> call) {
        answersAndStays(made, what, call, -2, 0);
    }

    void no(Supplier<SwimLanes> made, String what, ToLongFunction<SwimLanes> call) {
        answersAndStays(made, what, call, -3, 1);
    }

    void full(Supplier<SwimLanes> made, String what, ToLongFunction<SwimLanes> call) {
        answersAndStays(made, what, call, -4, 2);
    }

    /** BAD, where the document tells another number for it. */
    void badAs(long answer, Supplier<SwimLanes> made, String what, ToLongFunction<SwimLanes> call) {
        answersAndStays(made, what, call, answer, 0);
    }

    /** The least and the greatest number that are allowed, with their answers; the ones beside them are BAD. */
    void range(Supplier<SwimLanes> made, String what, With with, int least, long atLeast, int most, long atMost) {
        rangeElse(-2, made, what, with, new long[] {least, atLeast, most, atMost});
    }

    void rangeElse(long bad, Supplier<SwimLanes> made, String what, With with, long[] ends) {
        int least = (int) ends[0];
        int most = (int) ends[2];
        does(made, what + " at " + least, x -> with.call(x, least), ends[1]);
        does(made, what + " at " + most, x -> with.call(x, most), ends[3]);
        for (int number : new int[] {least - 1, most + 1, Integer.MIN_VALUE, Integer.MAX_VALUE}) {
            answersAndStays(made, what + " at " + number, x -> with.call(x, number), bad, 0);
        }
    }

    private void answersAndStays(
        Supplier<SwimLanes> made, String what, ToLongFunction<SwimLanes> call, long want, int reason) {
        SwimLanes x = made.get();
        SwimLanes twin = made.get();
        is(what, call.applyAsLong(x), want);
        status(what, x, twin, reason);
        alike(what + ", then", x, twin);
    }

    private void status(String what, SwimLanes x, SwimLanes twin, int reason) {
        for (int i = 0; i < 3; i++) {
            is(what + ", then status " + i, x.status(i), twin.status(i) + (i == reason ? 1 : 0));
        }
    }

    /** Both are used up by it. */
    void alike(String what, SwimLanes x, SwimLanes twin) {
        List<String> got = Answers.of(x);
        List<String> want = Answers.of(twin);
        int unlike = 0;
        for (int i = 0; i < want.size(); i++) {
            if (!got.get(i).equals(want.get(i))) {
                unlike++;
                System.out.println(saying + what + " " + got.get(i) + ", due is " + want.get(i));
            }
        }
        is(what + " how many answers are unlike", unlike, 0);
    }

    /** Every promise has a boundary case, and so have the terms. */
    void end(String test, int last) {
        for (int promise = TERMS; promise <= last; promise++) {
            due.holds("a boundary case of promise " + promise, promises.contains(promise));
        }
        System.out.println(test + ": " + sentences + " sentences");
        due.end(test);
    }
}
