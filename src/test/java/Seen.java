import java.util.ArrayList;
import java.util.LinkedHashMap;
import java.util.List;
import java.util.Map;

/**
 * All that a box tells, but status(), by the part of it that tells it: what only looks comes first, then what changes
 * the box. It is used up by it.
 */
final class Seen {
    static final String HOUSE = "HOUSE", TRACE = "TRACE", TAPE = "TAPE", IMAGE_0 = "IMAGE 0", IMAGE_1 = "IMAGE 1", ROWS = "ROWS";

    private final FuseBox x;
    private final Map<String, List<String>> parts = new LinkedHashMap<>();
    private List<String> answers;

    private Seen(FuseBox x) {
        this.x = x;
    }

    static Map<String, List<String>> parts(FuseBox x) {
        Seen seen = new Seen(x);
        seen.all();
        return seen.parts;
    }

    static List<String> of(FuseBox x) {
        return together(parts(x));
    }

    /** Without the tape and the fault, which a text that has one does change. */
    static List<String> withoutTape(FuseBox x) {
        Map<String, List<String>> parts = parts(x);
        parts.remove(TAPE);
        return together(parts);
    }

    private static List<String> together(Map<String, List<String>> parts) {
        List<String> all = new ArrayList<>();
        parts.values().forEach(all::addAll);
        return all;
    }

    private void all() {
        part(TRACE);
        trace();
        part(ROWS);
        add("count(0)", x.count(0));
        part(TAPE);
        add("count(9)", x.count(9));
        add("fault()", x.fault());
        part(HOUSE);
        look();
        undoAll();
        part(IMAGE_0);
        image(0);
        part(IMAGE_1);
        image(1);
        part(TAPE);
        add("house() of the tape", x.house());
        add("fault() of the tape", x.fault());
        part(ROWS);
        rows();
    }

    private void part(String name) {
        answers = parts.computeIfAbsent(name, n -> new ArrayList<>());
    }

    private void add(String call, int answer) {
        answers.add(call + " " + answer);
    }

    private void look() {
        for (int what = 1; what < 9; what++) {
            add("count(" + what + ")", x.count(what));
        }
        for (int l = 0; l < 4; l++) {
            add("kind(" + l + ")", x.kind(l));
            for (int what = 0; what < 6; what++) {
                add("line(" + l + ", " + what + ")", x.line(l, what));
            }
        }
        for (int t = 0; t < 6; t++) {
            for (int what = 0; what < 4; what++) {
                add("thing(" + t + ", " + what + ")", x.thing(t, what));
            }
        }
    }

    private void trace() {
        for (int i = 0; i < 8; i++) {
            add("trace(" + i + ")", x.trace(i));
        }
    }

    private void undoAll() {
        for (int i = 0; i < 25; i++) {
            add("undo() " + i, x.undo());
            add("MINUTE " + i, x.count(3));
            add("DEAD " + i, x.count(6));
            add("RUN " + i, x.later(0, 1));
        }
    }

    private void image(int k) {
        int answer = x.restore(k);
        add("restore(" + k + ")", answer);
        for (int what = 1; answer == 1 && what < 9; what++) {
            add("count(" + what + ") of image " + k, x.count(what));
        }
        for (int l = 0; answer == 1 && l < 4; l++) {
            add("HEAT of image " + k, x.line(l, 1));
            add("RATE of image " + k, x.line(l, 0));
            add("things of image " + k, x.line(l, 5));
        }
    }

    /** A breaker's heat stays, so that the one heat that fits is the item, if it is 0 to 9. */
    private void rows() {
        Due.feed(x, "m60;b20;t0,1,0;");
        x.house();
        for (int row = 0; row < 8; row++) {
            int[] places = {0, 1, 2, 10, 38, 39};
            for (int i : places) {
                add("item " + i + " of row " + row, x.fits(0, row, i, 1, 2));
            }
            add("drop(" + row + ")", x.drop(row));
        }
    }
}
