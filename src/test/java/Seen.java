import java.util.ArrayList;
import java.util.List;

/** All that a box tells, but status(): what only looks comes first, then what changes the box. It is used up by it. */
final class Seen {
    private final FuseBox x;
    private final List<String> answers = new ArrayList<>();

    private Seen(FuseBox x) {
        this.x = x;
    }

    static List<String> of(FuseBox x) {
        return new Seen(x).all(true);
    }

    /** Without the tape and the fault, which a text that has one does change. */
    static List<String> withoutTape(FuseBox x) {
        return new Seen(x).all(false);
    }

    private List<String> all(boolean tape) {
        look();
        trace();
        if (tape) {
            add("count(9)", x.count(9));
            add("fault()", x.fault());
        }
        undoAll();
        images();
        if (tape) {
            add("house() of the tape", x.house());
            add("fault() of the tape", x.fault());
        } else {
            x.house();
        }
        rows();
        return answers;
    }

    private void add(String call, int answer) {
        answers.add(call + " " + answer);
    }

    private void look() {
        for (int what = 0; what < 9; what++) {
            add("count(" + what + ")", x.count(what));
        }
        for (int l = 0; l < 4; l++) {
            add("kind(" + l + ")", x.kind(l));
            for (int what = 0; what < 6; what++) {
                add("line(" + l + ", " + what + ")", x.line(l, what));
            }
        }
        for (int t = 0; t < 6; t++) {
            for (int what = 0; what < 4; what++) {
                add("thing(" + t + ", " + what + ")", x.thing(t, what));
            }
        }
    }

    private void trace() {
        for (int i = 0; i < 8; i++) {
            add("trace(" + i + ")", x.trace(i));
        }
    }

    private void undoAll() {
        for (int i = 0; i < 25; i++) {
            add("undo() " + i, x.undo());
            add("MINUTE " + i, x.count(3));
            add("DEAD " + i, x.count(6));
            add("RUN " + i, x.later(0, 1));
        }
    }

    private void images() {
        for (int k = 0; k < 2; k++) {
            add("restore(" + k + ")", x.restore(k));
            for (int what = 1; what < 9; what++) {
                add("count(" + what + ") of image " + k, x.count(what));
            }
            for (int l = 0; l < 4; l++) {
                add("HEAT of image " + k, x.line(l, 1));
                add("RATE of image " + k, x.line(l, 0));
                add("things of image " + k, x.line(l, 5));
            }
        }
    }

    /** A breaker's heat stays, so that the one heat that fits is the item, if it is 0 to 9. */
    private void rows() {
        Due.feed(x, "m60;b20;t0,1,0;");
        x.house();
        for (int row = 0; row < 8; row++) {
            int[] places = {0, 1, 2, 10, 38, 39};
            for (int i : places) {
                add("item " + i + " of row " + row, x.fits(0, row, i, 1, 2));
            }
            add("drop(" + row + ")", x.drop(row));
        }
    }
}
