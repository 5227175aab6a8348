import java.util.ArrayList;
import java.util.List;

/** All that can be asked of an object, at last by calls that change it: two that are alike answer alike. */
final class Answers {
    private final SwimLanes x;
    private final List<String> told = new ArrayList<>();

    private Answers(SwimLanes x) {
        this.x = x;
    }

    /** Some 200 calls at most; the object is used up by them. STATUS is not asked for. */
    static List<String> of(SwimLanes x) {
        Answers answers = new Answers(x);
        answers.state();
        answers.undoAll("undo");
        for (int i = 0; i < 2; i++) {
            answers.add("from(" + i + ")", x.from(i));
            answers.add("digest of image " + i, x.digest());
            answers.undoAll("undo from image " + i);
        }
        answers.add("read", x.read());
        answers.add("digest of what was read", x.digest());
        return answers.told;
    }

    private void add(String what, long answer) {
        told.add(what + " " + answer);
    }

    private void state() {
        for (int what = 0; what <= 6; what++) {
            add("count " + what, x.count(what));
        }
        add("above", x.part(0));
        add("below", x.part(1));
        for (int l = 0; l < 4; l++) {
            for (int what = 0; what <= 2; what++) {
                add("lane " + l + " " + what, x.lane(l, what));
            }
        }
        for (int p = 0; p < 7; p++) {
            for (int what = 0; what <= 5; what++) {
                add("of " + p + " " + what, x.of(p, what));
            }
            add("kinds of " + p, x.is(p, 0));
            add("paces of " + p, x.is(p, 1));
        }
        add("digest", x.digest());
    }

    private void undoAll(String what) {
        for (int i = 0; i < 9; i++) {
            add(what + " " + i, x.undo());
            add(what + " " + i + ", digest", x.digest());
        }
    }
}
