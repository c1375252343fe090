import java.util.List;
import java.util.function.Supplier;

/**
 * The refusals of each call: what is just beyond each end of each number, and far off, without a house and with houses
 * of several sizes; of two at once the one that is told first; and that what is refused changes nothing but status():
 * a box that was refused a call answers all that comes as its twin, that never heard of it.
 */
public final class RefusalTest {
    private static final int NONE = -1000000, BAD = -1000001, STATE = -1000002, FULL = -1000003;
    private static final int NULL = -1000011, PLACE = -1000012, KIND = -1000013, SIZE = -1000014, STORE = -1000015;
    private static final int LEAST = Integer.MIN_VALUE, LARGEST = Integer.MAX_VALUE;

    private static final Due DUE = new Due();

    private interface Call {
        int on(FuseBox x, int[] a);
    }

    public static void main(String[] args) {
        everyRange();
        withoutHouse();
        badAheadOfAll();
        rowFindings();
        setFindings();
        copyFindings();
        dropFindings();
        fitsFindings();
        asFindings();
        feedRefusals();
        faultChangesNothing();
        stateOfActs();
        stateOfImages();
        fullOfMinutes();
        DUE.end();
    }

    // ---- what is refused changes nothing

    private static void same(String call, List<String> got, List<String> want) {
        String first = "";
        for (int i = 0; i < want.size() && first.isEmpty(); i++) {
            first = got.get(i).equals(want.get(i)) ? "" : got.get(i) + ", due is " + want.get(i);
        }
        DUE.holds("what " + call + " leaves: " + first, got.equals(want));
    }

    private static void refused(String call, Supplier<FuseBox> made, int answer, Call c, int... a) {
        FuseBox x = made.get();
        int before = x.status();
        DUE.is(call, c.on(x, a), answer);
        boolean found = answer <= NULL && answer >= STORE;
        DUE.is("status() behind " + call, x.status(), found ? -1000010 - answer : before);
        same(call, Seen.of(x), Seen.of(made.get()));
    }

    private static String text(String name, int... a) {
        StringBuilder text = new StringBuilder(name).append('(');
        for (int i = 0; i < a.length; i++) {
            text.append(i == 0 ? "" : ", ").append(a[i]);
        }
        return text.append(')').toString();
    }

    /** ends: the least and the most of each number. Both are taken, at all ends of the others; what is beyond is BAD. */
    private static void range(String name, Supplier<FuseBox> made, Call c, int... ends) {
        int numbers = ends.length / 2;
        for (int corner = 0; corner < 1 << numbers; corner++) {
            int[] a = new int[numbers];
            for (int i = 0; i < numbers; i++) {
                a[i] = ends[2 * i + (corner >> i & 1)];
            }
            DUE.holds(text(name, a) + " is not BAD", c.on(made.get(), a) != BAD);
            for (int i = 0; i < numbers; i++) {
                int[] beyond = a.clone();
                for (int v : new int[] {ends[2 * i] - 1, ends[2 * i + 1] + 1, LEAST, LARGEST}) {
                    beyond[i] = v;
                    refused(text(name, beyond), made, BAD, c, beyond);
                }
            }
        }
    }

    private static void everyRange() {
        DUE.at("the ends of each number, with 3 LINES and 5 THINGS");
        rangesOfHouse(Boxes::some, 2, 4);
        DUE.at("the ends of each number, with 4 LINES and 6 THINGS");
        rangesOfHouse(Boxes::all, 3, 5);
        DUE.at("the ends of each number, MAIN out");
        rangesOfHouse(Boxes::mainOut, 1, 1);
        DUE.at("the ends of each number, without a LINE or THING");
        for (Supplier<FuseBox> made : List.<Supplier<FuseBox>>of(Boxes::some, FuseBox::new)) {
            range("feed", made, (x, a) -> x.feed(a[0]), 0, 255);
            range("image", made, (x, a) -> x.image(a[0]), 0, 1);
            range("restore", made, (x, a) -> x.restore(a[0]), 0, 1);
            range("count", made, (x, a) -> x.count(a[0]), 0, 9);
            range("drop", made, (x, a) -> x.drop(a[0]), 0, 7);
            range("set of a row", made, (x, a) -> x.set(a[0], 0, 0), 0, 7);
            range("copy of rows", made, (x, a) -> x.copy(a[0], 0, a[1], 0, 0), 0, 7, 0, 7);
            range("row", made, (x, a) -> x.row(a[0], a[1], 1), 0, 7, 0, 2);
        }
        range("minutes", Boxes::some, (x, a) -> x.minutes(a[0]), 1, 24);
        range("later", Boxes::some, (x, a) -> x.later(a[0], a[1]), 0, 60, 0, 2);
        range("drawn", Boxes::some, (x, a) -> x.drawn(a[0], a[1], a[2]), 0, 60, 1, 999999, 0, 1);
        // n below 0 is found, not BAD, so its lower end is not looked at here.
        for (int n : new int[] {41, 42, LARGEST}) {
            refused(text("row", 0, 0, n), Boxes::some, BAD, (x, a) -> x.row(0, 0, a[0]), n);
            refused(text("row", 5, 2, n), FuseBox::new, BAD, (x, a) -> x.row(5, 2, a[0]), n);
        }
    }

    private static void rangesOfHouse(Supplier<FuseBox> made, int line, int thing) {
        range("turn", made, (x, a) -> x.turn(a[0], a[1]), 0, thing, 0, 1);
        range("plug", made, (x, a) -> x.plug(a[0], a[1]), 0, thing, 0, line);
        range("mend", made, (x, a) -> x.mend(a[0]), 0, line);
        range("rate", made, (x, a) -> x.rate(a[0], a[1]), 0, line, 1, 20);
        range("line", made, (x, a) -> x.line(a[0], a[1]), 0, line, 0, 5);
        range("thing", made, (x, a) -> x.thing(a[0], a[1]), 0, thing, 0, 3);
        range("heat", made, (x, a) -> x.heat(a[0], a[1]), 0, line, 0, 60);
        range("lost", made, (x, a) -> x.lost(a[0]), 0, line);
        range("shed", made, (x, a) -> x.shed(a[0], a[1], a[2]), 0, thing, 1, 30, 0, 1);
        range("plugs", made, (x, a) -> x.plugs(a[0], a[1]), 1, 12, -1, thing);
        range("holds", made, (x, a) -> x.holds(a[0], a[1]), 0, line, 1, 30);
        range("faulty", made, (x, a) -> x.faulty(a[0], a[1]), 0, line, 1, 30);
        range("bill", made, (x, a) -> x.bill(a[0], a[1]), 0, thing, 0, 999);
        range("fits", made, (x, a) -> x.fits(a[0], a[1], 0, a[2], a[3]), 0, line, 0, 7, 1, 12, 0, 4);
        range("chance", made, (x, a) -> x.chance(a[0], a[1], a[2], a[3]), 0, line, 0, 60, 0, 10, 0, 1);
        range("kind", made, (x, a) -> x.kind(a[0]), 0, line);
        range("as", made, (x, a) -> x.as(a[0], a[1]), 0, line, 0, 5);
        range("ask", made, (x, a) -> x.ask(a[0], a[1]), 0, line, 0, 1);
    }

    // ---- without a house

    private static final int[] ANY = {LEAST, -1000001, -2, -1, 0, 1, 2, 5, 12, 13, 24, 25, 60, 999999, LARGEST};

    /** The answer, whatever the numbers are; a row is there all the same. */
    private static void always(String name, int numbers, int answer, Call c) {
        FuseBox x = new FuseBox();
        x.row(0, 0, 40);
        x.row(1, 0, -1);
        for (int first : ANY) {
            for (int other : ANY) {
                int[] a = new int[numbers];
                for (int i = 0; i < numbers; i++) {
                    a[i] = i == 0 ? first : other;
                }
                DUE.is(text(name, a) + " without a HOUSE", c.on(x, a), answer);
            }
        }
        DUE.is("status() behind " + name, x.status(), 4);
    }

    private static void withoutHouse() {
        DUE.at("STATE: no HOUSE (ahead of BAD)");
        always("minutes", 1, STATE, (x, a) -> x.minutes(a[0]));
        always("later", 2, STATE, (x, a) -> x.later(a[0], a[1]));
        always("plugs", 2, STATE, (x, a) -> x.plugs(a[0], a[1]));
        always("drawn", 3, STATE, (x, a) -> x.drawn(a[0], a[1], a[2]));
        DUE.at("STATE: no HOUSE");
        refused("mains()", FuseBox::new, STATE, (x, a) -> x.mains());
        refused("dark()", FuseBox::new, STATE, (x, a) -> x.dark());
        refused("undo()", FuseBox::new, STATE, (x, a) -> x.undo());
        refused("image(0)", FuseBox::new, STATE, (x, a) -> x.image(0));
        refused("image(1)", FuseBox::new, STATE, (x, a) -> x.image(1));
        refused("restore(0)", FuseBox::new, STATE, (x, a) -> x.restore(0));
        refused("restore(1)", FuseBox::new, STATE, (x, a) -> x.restore(1));
        DUE.at("BAD: there is no such LINE or THING without a HOUSE");
        always("turn", 2, BAD, (x, a) -> x.turn(a[0], a[1]));
        always("plug", 2, BAD, (x, a) -> x.plug(a[0], a[1]));
        always("mend", 1, BAD, (x, a) -> x.mend(a[0]));
        always("rate", 2, BAD, (x, a) -> x.rate(a[0], a[1]));
        always("line", 2, BAD, (x, a) -> x.line(a[0], a[1]));
        always("thing", 2, BAD, (x, a) -> x.thing(a[0], a[1]));
        always("heat", 2, BAD, (x, a) -> x.heat(a[0], a[1]));
        always("lost", 1, BAD, (x, a) -> x.lost(a[0]));
        always("shed", 3, BAD, (x, a) -> x.shed(a[0], a[1], a[2]));
        always("holds", 2, BAD, (x, a) -> x.holds(a[0], a[1]));
        always("faulty", 2, BAD, (x, a) -> x.faulty(a[0], a[1]));
        always("bill", 2, BAD, (x, a) -> x.bill(a[0], a[1]));
        always("fits", 5, BAD, (x, a) -> x.fits(a[0], a[1], a[2], a[3], a[4]));
        always("chance", 4, BAD, (x, a) -> x.chance(a[0], a[1], a[2], a[3]));
        always("kind", 1, BAD, (x, a) -> x.kind(a[0]));
        always("as", 2, BAD, (x, a) -> x.as(a[0], a[1]));
        always("ask", 2, BAD, (x, a) -> x.ask(a[0], a[1]));
        always("fits of a row that is there", 1, BAD, (x, a) -> x.fits(0, 0, 0, 1, 0));
        always("fits of a row that is missing", 1, BAD, (x, a) -> x.fits(0, 7, 0, 1, 0));
        DUE.at("without a HOUSE");
        always("trace", 1, NONE, (x, a) -> x.trace(a[0]));
        always("fault", 1, 0, (x, a) -> x.fault());
        for (int what = 1; what < 10; what++) {
            int w = what;
            always("count of " + what, 1, 0, (x, a) -> x.count(w));
        }
    }

    // ---- two at once, and what is found

    private static void badAheadOfAll() {
        DUE.at("BAD ahead of STATE, FULL and what is found");
        refused("image(2)", FuseBox::new, BAD, (x, a) -> x.image(2));
        refused("image(-1)", FuseBox::new, BAD, (x, a) -> x.image(-1));
        refused("restore(2)", FuseBox::new, BAD, (x, a) -> x.restore(2));
        refused("restore(-1)", FuseBox::new, BAD, (x, a) -> x.restore(-1));
        refused("mend(3), as none is DEAD", () -> Due.box("m9;w1;b1;c1;t0,1,0;"), BAD, (x, a) -> x.mend(3));
        refused("turn(5, 1)", Boxes::some, BAD, (x, a) -> x.turn(5, 1));
        refused("plug(0, 3)", Boxes::some, BAD, (x, a) -> x.plug(0, 3));
        refused("plug(5, 0)", Boxes::some, BAD, (x, a) -> x.plug(5, 0));
        refused("row(8, 0, -1)", Boxes::some, BAD, (x, a) -> x.row(8, 0, -1));
        refused("row(0, 3, -1)", Boxes::some, BAD, (x, a) -> x.row(0, 3, -1));
        refused("set(8, -1, 0)", Boxes::some, BAD, (x, a) -> x.set(8, -1, 0));
        refused("copy of a missing row, BAD b", Boxes::some, BAD, (x, a) -> x.copy(5, 0, 8, 0, 1));
        refused("copy to a missing row, BAD a", Boxes::some, BAD, (x, a) -> x.copy(-1, 0, 5, 0, 1));
        refused("copy of no place, BAD b", Boxes::some, BAD, (x, a) -> x.copy(0, -1, 8, -1, -1));
        refused("fits of a missing row, BAD line", Boxes::some, BAD, (x, a) -> x.fits(3, 5, 0, 1, 0));
        refused("fits of a missing row, BAD n", Boxes::some, BAD, (x, a) -> x.fits(0, 5, 0, 13, 0));
        refused("fits of a missing row, BAD what", Boxes::some, BAD, (x, a) -> x.fits(0, 5, 0, 1, 5));
        refused("fits of no place, BAD n", Boxes::some, BAD, (x, a) -> x.fits(0, 0, 12, 0, 0));
        refused("fits of no place, BAD what", Boxes::some, BAD, (x, a) -> x.fits(0, 0, -1, 1, -1));
        refused("as of no such KIND, BAD line", Boxes::some, BAD, (x, a) -> x.as(3, 5));
    }

    private static void rowFindings() {
        DUE.at("row: SIZE");
        for (int row = 0; row < 8; row++) {
            for (int n : new int[] {-1, -41, LEAST}) {
                int[] a = {row, row % 3, n};
                refused(text("row", a), Boxes::some, SIZE, (x, b) -> x.row(b[0], b[1], b[2]), a);
            }
        }
    }

    private static void setFindings() {
        DUE.at("set: NULL; PLACE");
        Call set = (x, a) -> x.set(a[0], a[1], 9);
        for (int i : new int[] {0, -1, 40, LEAST, LARGEST}) {
            refused(text("set", 5, i), Boxes::some, NULL, set, 5, i);
            refused(text("set", 7, i), Boxes::some, NULL, set, 7, i);
        }
        int[][] sizes = {{0, 12}, {1, 40}, {2, 40}, {3, 0}, {4, 40}, {6, 3}};
        for (int[] s : sizes) {
            for (int i : new int[] {-1, s[1], s[1] + 1, LEAST, LARGEST}) {
                refused(text("set", s[0], i), Boxes::some, PLACE, set, s[0], i);
            }
        }
    }

    private static void copies(int answer, int[]... calls) {
        for (int[] a : calls) {
            refused(text("copy", a), Boxes::some, answer, (x, b) -> x.copy(b[0], b[1], b[2], b[3], b[4]), a);
        }
    }

    private static void copyFindings() {
        DUE.at("copy: NULL, STORE, PLACE (i, j, n below 0, or beyond an end)");
        copies(NULL, new int[][] {{5, 0, 0, 0, 0}, {0, 0, 5, 0, 0}, {5, 0, 5, 0, 0}, {5, 0, 7, 0, 1}, {5, -1, 0, 0, 1},
            {0, 0, 5, -1, -1}, {7, LEAST, 1, LARGEST, LEAST}});
        copies(STORE, new int[][] {{0, 0, 1, 0, 1}, {1, 0, 0, 0, 1}, {0, 0, 2, 0, 1}, {2, 0, 4, 0, 1}, {1, 0, 2, 0, 1}, {2, 0, 6, 0, 1},
            {0, 0, 1, 0, 0}, {0, -1, 1, 0, 1}, {3, 0, 1, 0, 1}, {2, 0, 1, 40, 1}, {2, 0, 0, 0, -1}, {0, LEAST, 2, LARGEST, LEAST}});
        copies(PLACE, new int[][] {{0, -1, 4, 0, 1}, {0, 0, 4, -1, 1}, {0, 0, 4, 0, -1}, {0, 0, 4, 0, 13}, {0, 1, 4, 0, 12},
            {0, 12, 4, 0, 1}, {0, 13, 4, 0, 0}, {4, 0, 0, 0, 13}, {4, 0, 0, 1, 12}, {4, 0, 0, 12, 1}, {4, 0, 0, 13, 0},
            {4, 40, 4, 0, 1}, {4, 41, 4, 0, 0}, {4, 0, 4, 41, 0}, {4, 0, 4, 0, 41}, {4, 1, 4, 0, 40}, {4, 0, 4, 1, 40},
            {3, 0, 2, 0, 1}, {2, 0, 3, 0, 1}, {3, 1, 2, 0, 0}, {2, 0, 3, 1, 0}, {1, 37, 6, 0, 4}});
        copies(PLACE, new int[][] {{2, LEAST, 2, 0, 1}, {2, LARGEST, 2, 0, 1}, {2, 0, 2, LEAST, 1}, {2, 0, 2, LARGEST, 1},
            {2, 0, 2, 0, LEAST}, {2, 0, 2, 0, LARGEST}, {2, LARGEST, 2, 0, LARGEST}, {2, 0, 2, LARGEST, LARGEST},
            {2, 1, 2, 1, LARGEST}, {2, LEAST, 2, LEAST, LEAST}, {2, LARGEST, 2, LARGEST, LARGEST}, {2, LEAST, 2, 0, LEAST},
            {2, LARGEST, 2, LARGEST, 0}, {2, LEAST, 2, LEAST, 0}, {2, -1, 2, 0, 0}, {2, 0, 2, -1, 0}, {2, 1, 2, 1, -1}});
    }

    private static void dropFindings() {
        DUE.at("drop: NULL");
        refused("drop(5)", Boxes::some, NULL, (x, a) -> x.drop(5));
        refused("drop(7)", Boxes::some, NULL, (x, a) -> x.drop(7));
        refused("drop(0)", FuseBox::new, NULL, (x, a) -> x.drop(0));
    }

    private static void fitsFindings() {
        DUE.at("fits: NULL; PLACE");
        Call fits = (x, a) -> x.fits(0, a[0], a[1], a[2], a[3]);
        for (int what = 0; what < 5; what++) {
            for (int i : new int[] {0, -1, 40, LEAST, LARGEST}) {
                refused(text("fits", 5, i, 1, what), Boxes::some, NULL, fits, 5, i, 1, what);
            }
            int[][] places = {{0, -1, 1}, {0, 12, 1}, {0, 1, 12}, {0, 11, 2}, {3, 0, 1}, {2, 29, 12}, {2, 40, 1}, {6, 0, 4},
                {2, LEAST, 1}, {2, LARGEST, 1}, {2, LARGEST, 12}, {2, LEAST, 12}, {2, -1, 12}, {2, -12, 12}};
            for (int[] p : places) {
                refused(text("fits", p[0], p[1], p[2], what), Boxes::some, PLACE, fits, p[0], p[1], p[2], what);
            }
        }
    }

    private static void asFindings() {
        DUE.at("as: KIND");
        int[][] no = {{0, 2}, {0, 3}, {0, 4}, {0, 5}, {1, 1}, {1, 2}, {1, 3}, {1, 5}, {2, 1}, {2, 2}, {2, 3}, {3, 2}, {3, 4}, {3, 5}};
        for (int[] a : no) {
            refused(text("as", a), Boxes::all, KIND, (x, b) -> x.as(b[0], b[1]), a);
        }
    }

    // ---- tape, acts, images

    private static FuseBox fullTape() {
        FuseBox x = Boxes.some();
        for (int i = 2; i < 90; i++) {
            x.feed(i);
        }
        return x;
    }

    private static void feedRefusals() {
        DUE.at("feed: BAD; FULL");
        for (int letter : new int[] {0, 'm', 255}) {
            refused(text("feed", letter), RefusalTest::fullTape, FULL, (x, a) -> x.feed(a[0]), letter);
        }
        for (int letter : new int[] {-1, 256, LEAST, LARGEST}) {
            refused(text("feed", letter), RefusalTest::fullTape, BAD, (x, a) -> x.feed(a[0]), letter);
        }
    }

    private static void faultChangesNothing() {
        DUE.at("house: -1000100 less the place of a FAULT: all stays");
        String[] behind = {"", ";", ";w1;w1;w1;w1;w1;", ";w1;t0,1,1;t0,1,2;", ";b1;t1", "77"};
        int[] places = {2, 3, 15, 18, 7, 1};
        for (Supplier<FuseBox> made : List.<Supplier<FuseBox>>of(Boxes::some, Boxes::all, Boxes::mainOut)) {
            for (int i = 0; i < behind.length; i++) {
                FuseBox x = made.get();
                Due.feed(x, behind[i]);
                DUE.is("house() of m7" + behind[i], x.house(), -1000100 - places[i]);
                DUE.is("the tape is empty then", x.count(9), 0);
                DUE.is("status()", x.status(), 2);
                same("house() of m7" + behind[i], Seen.withoutTape(x), Seen.withoutTape(made.get()));
            }
        }
        FuseBox x = new FuseBox();
        Due.feed(x, "m9;w1;t0,1,1;t");
        DUE.is("house()", x.house(), -1000114);
        DUE.is("no HOUSE stays none", x.minutes(1), STATE);
        DUE.is("LINES", x.count(1) + x.count(2) + x.count(4) + x.count(5), 0);
    }

    private static void stateOfActs() {
        DUE.at("STATE of acts");
        Call turn = (x, a) -> x.turn(a[0], a[1]);
        refused("turn(0, 1), it is on", Boxes::some, STATE, turn, 0, 1);
        refused("turn(3, 0), it is off", Boxes::some, STATE, turn, 3, 0);
        refused("turn(4, 1), it is on, its LINE is DEAD", Boxes::some, STATE, turn, 4, 1);
        refused("turn(1, 1), it is on, MAIN is out", Boxes::mainOut, STATE, turn, 1, 1);
        Call plug = (x, a) -> x.plug(a[0], a[1]);
        refused("plug(0, 0)", Boxes::some, STATE, plug, 0, 0);
        refused("plug(2, 2)", Boxes::some, STATE, plug, 2, 2);
        refused("plug(3, 0), it is off", Boxes::some, STATE, plug, 3, 0);
        refused("plug(4, 1), the LINE is DEAD", Boxes::some, STATE, plug, 4, 1);
        refused("mend(0)", Boxes::some, STATE, (x, a) -> x.mend(0));
        refused("mend(2), a coil", Boxes::some, STATE, (x, a) -> x.mend(2));
        refused("mend(0), not LIVE, but not DEAD", Boxes::mainOut, STATE, (x, a) -> x.mend(0));
        refused("mains(), it is in", Boxes::some, STATE, (x, a) -> x.mains());
        Supplier<FuseBox> fresh = () -> Due.box("m9;w1;t0,1,0;");
        refused("undo(), none yet", fresh, STATE, (x, a) -> x.undo());
        refused("undo(), none any more", () -> undone(5), STATE, (x, a) -> x.undo());
        refused("undo(), none any more of 24", () -> undone(24), STATE, (x, a) -> x.undo());
        refused("undo(), the others are forgotten", () -> undone(30), STATE, (x, a) -> x.undo());
    }

    private static FuseBox undone(int acts) {
        FuseBox x = Due.box("m60;w5;t0,8,1;");
        for (int i = 0; i < acts; i++) {
            x.minutes(1);
        }
        for (int i = 0; i < acts && i < 24; i++) {
            x.undo();
        }
        return x;
    }

    private static void stateOfImages() {
        DUE.at("restore: STATE: none was kept");
        refused("restore(1), only 0 was kept", Boxes::some, STATE, (x, a) -> x.restore(1));
        Supplier<FuseBox> other = () -> {
            FuseBox x = Due.box("m9;w1;t0,1,1;");
            x.minutes(3);
            x.image(1);
            return x;
        };
        refused("restore(0), only 1 was kept", other, STATE, (x, a) -> x.restore(0));
    }

    private static FuseBox atMinute(int minute) {
        FuseBox x = Due.box("m60;w5;c3;t0,5,1;t1,4,1;");
        for (int left = minute; left > 0; left -= 24) {
            x.minutes(Math.min(24, left));
        }
        return x;
    }

    private static void fullOfMinutes() {
        DUE.at("minutes: FULL: beyond MINUTE 9999");
        Call minutes = (x, a) -> x.minutes(a[0]);
        int[][] full = {{9999, 1}, {9999, 24}, {9998, 2}, {9998, 24}, {9976, 24}, {9990, 10}};
        for (int[] f : full) {
            refused("minutes(" + f[1] + ") at " + f[0], () -> atMinute(f[0]), FULL, minutes, f[1]);
        }
        for (int n : new int[] {0, 25, -1, LEAST, LARGEST}) {
            refused("minutes(" + n + ") at 9999: BAD ahead of FULL", () -> atMinute(9999), BAD, minutes, n);
        }
        int[][] fits = {{9998, 1}, {9997, 2}, {9975, 24}, {9976, 23}};
        for (int[] f : fits) {
            FuseBox x = atMinute(f[0]);
            DUE.holds("minutes(" + f[1] + ") at " + f[0], x.minutes(f[1]) >= 0);
            DUE.is("MINUTE", x.count(3), 9999);
        }
    }
}
