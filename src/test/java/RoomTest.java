import com.sun.management.ThreadMXBean;
import java.lang.management.ManagementFactory;

/** All calls of a run live in one room: no call makes an object, but for an image that is kept the first time. */
public final class RoomTest {
    private static final int ROUNDS = 300;

    private static long answers = 0;

    public static void main(String[] args) {
        Due due = new Due();
        ThreadMXBean threads = (ThreadMXBean) ManagementFactory.getThreadMXBean();
        SwimLanes[] all = new SwimLanes[ROUNDS];
        for (int i = 0; i < ROUNDS; i++) {
            all[i] = made();
        }
        eachCall(made());
        long id = Thread.currentThread().getId();
        long before = threads.getThreadAllocatedBytes(id);
        for (int i = 0; i < ROUNDS; i++) {
            eachCall(all[i]);
        }
        long made = threads.getThreadAllocatedBytes(id) - before;
        due.holds("bytes made by " + ROUNDS + " rounds of all calls: " + made, made < 4096);
        due.holds("they were answered", answers != 0);
        due.end("RoomTest");
    }

    private static SwimLanes made() {
        SwimLanes x = Due.bathOf(0, 30, 0, 1, 90, 0, 2, 45, 0, 3, 50, 1, 4, 60, 1, 5, 20, 2, 0, 70, 3);
        x.image(0);
        x.image(1);
        return x;
    }

    private static void eachCall(SwimLanes x) {
        x.from(0);
        answers += x.sign(0, 1) + x.shut(3, 1) + x.goes(0, 2) + x.minute(9) + x.undo();
        for (int p = -1; p < 7; p++) {
            answers += x.of(p, 5) + x.seconds(p, 1, 0) + x.lengths(p, 9) + x.best(p) + x.cost(p, 1) + x.where(p);
            answers += x.all(p) + x.changes(p) + x.order(0, 30, 1, p) + x.look(p) + x.touch(p, 0);
            answers += x.note(p, 45, 0, 0, 0) + x.is(p, 0) + x.is(p, 1);
        }
        answers += x.lane(0, 2) + x.obey(1) + x.apart(0, 9) + x.forget() + x.counts(9, 4, 3) + x.mornings(7, 60);
        answers += x.part(0) + x.image(1) + x.status(0) + x.count(3) + x.digest() + x.one(0, 20, 0) + x.clear();
        String text = "bath;one 0 20 0;";
        for (int i = 0; i < text.length(); i++) {
            answers += x.type(text.charAt(i));
        }
        answers += x.read() + x.bath();
    }
}
