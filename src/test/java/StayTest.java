import java.util.ArrayList;
import java.util.List;
import java.util.Map;
import java.util.function.Supplier;
import java.util.function.ToIntFunction;

/**
 * What a call that is not refused leaves as it is: behind it a box and its twin, that never heard of it, tell the same
 * but for the part that the call is about. (RefusalTest holds the same of what is refused.)
 */
public final class StayTest {
    private static final int BAD = -1000001, STORE = -1000015;

    private static final Due DUE = new Due();

    public static void main(String[] args) {
        boxes(Boxes::some, 3, 5);
        boxes(Boxes::all, 4, 6);
        boxes(Boxes::mainOut, 2, 2);
        rowsAlone();
        tapeAlone();
        houseAlone();
        newHouse();
        imagesAlone();
        traceAlone();
        bytesOneByOne();
        byTheHouseAlone();
        DUE.end();
    }

    /** That the call changes these parts, each of them, and no other; status() becomes the one that is told. */
    private static void changes(String call, Supplier<FuseBox> made, ToIntFunction<FuseBox> c, int status, String... changed) {
        FuseBox x = made.get();
        int answer = c.applyAsInt(x);
        DUE.holds(call + " is not refused, but answered " + answer, answer > BAD || answer < STORE);
        DUE.is("status() behind " + call, x.status(), status);
        Map<String, List<String>> got = Seen.parts(x);
        Map<String, List<String>> was = Seen.parts(made.get());
        for (String part : was.keySet()) {
            boolean same = got.get(part).equals(was.get(part));
            boolean stays = !List.of(changed).contains(part);
            DUE.holds(call + (stays ? " leaves " : " changes ") + part, same == stays);
        }
    }

    private static void stays(String call, Supplier<FuseBox> made, ToIntFunction<FuseBox> c) {
        changes(call, made, c, 2);
    }

    private static void boxes(Supplier<FuseBox> made, int lines, int things) {
        DUE.at("what only looks changes nothing, with " + lines + " LINES");
        for (int l = 0; l < lines; l++) {
            linesLookedAt(made, l);
        }
        for (int t = 0; t < things; t++) {
            thingsLookedAt(made, t);
        }
        DUE.at("FORETOLD (nothing changes), with " + lines + " LINES");
        for (int what = 0; what < 3; what++) {
            int w = what;
            stays("later(60, " + w + ")", made, x -> x.later(60, w));
        }
        stays("dark()", made, FuseBox::dark);
        stays("plugs(12, -1)", made, x -> x.plugs(12, -1));
        for (int seed : new int[] {1, 5, 15, 999997, 999999}) {
            stays("drawn(60, " + seed + ", 0)", made, x -> x.drawn(60, seed, 0));
            stays("drawn(60, " + seed + ", 1)", made, x -> x.drawn(60, seed, 1));
        }
        DUE.at("what only looks changes nothing");
        for (int what = 0; what < 10; what++) {
            int w = what;
            stays("count(" + w + ")", made, x -> x.count(w));
        }
        stays("trace(0)", made, x -> x.trace(0));
        stays("fault()", made, FuseBox::fault);
        stays("status()", made, FuseBox::status);
    }

    private static void linesLookedAt(Supplier<FuseBox> made, int l) {
        for (int what = 0; what < 6; what++) {
            int w = what;
            stays("line(" + l + ", " + w + ")", made, x -> x.line(l, w));
        }
        stays("heat(" + l + ", 60)", made, x -> x.heat(l, 60));
        stays("lost(" + l + ")", made, x -> x.lost(l));
        stays("holds(" + l + ", 30)", made, x -> x.holds(l, 30));
        stays("faulty(" + l + ", 30)", made, x -> x.faulty(l, 30));
        stays("chance(" + l + ", 60, 3, 0)", made, x -> x.chance(l, 60, 3, 0));
        stays("chance(" + l + ", 60, 3, 1)", made, x -> x.chance(l, 60, 3, 1));
        stays("kind(" + l + ")", made, x -> x.kind(l));
        for (int what = 0; what < 5; what++) {
            int w = what;
            changes("fits(" + l + ", 0, 0, 12, " + w + ")", made, x -> x.fits(l, 0, 0, 12, w), 0);
        }
        changes("as(" + l + ", 0)", made, x -> x.as(l, 0), 0);
    }

    private static void thingsLookedAt(Supplier<FuseBox> made, int t) {
        for (int what = 0; what < 4; what++) {
            int w = what;
            stays("thing(" + t + ", " + w + ")", made, x -> x.thing(t, w));
        }
        stays("shed(" + t + ", 30, 0)", made, x -> x.shed(t, 30, 0));
        stays("shed(" + t + ", 30, 1)", made, x -> x.shed(t, 30, 1));
        stays("plugs(12, " + t + ")", made, x -> x.plugs(12, t));
        stays("bill(" + t + ", 999)", made, x -> x.bill(t, 999));
    }

    private static void rowsAlone() {
        DUE.at("ROWS are by themselves");
        changes("row(0, 0, 12)", Boxes::all, x -> x.row(0, 0, 12), 0, Seen.ROWS);
        changes("row(5, 2, 40)", Boxes::all, x -> x.row(5, 2, 40), 0, Seen.ROWS);
        changes("set(0, 0, 9)", Boxes::all, x -> x.set(0, 0, 9), 0, Seen.ROWS);
        changes("copy(0, 0, 4, 1, 12)", Boxes::all, x -> x.copy(0, 0, 4, 1, 12), 0, Seen.ROWS);
        changes("drop(6)", Boxes::all, x -> x.drop(6), 0, Seen.ROWS);
        changes("copy(0, 0, 0, 0, 12)", Boxes::all, x -> x.copy(0, 0, 0, 0, 12), 0);
        changes("copy of none", Boxes::all, x -> x.copy(0, 12, 4, 40, 0), 0);
    }

    private static void tapeAlone() {
        DUE.at("the tape is by itself");
        for (int letter : new int[] {0, ';', 255}) {
            changes("feed(" + letter + ")", Boxes::all, x -> x.feed(letter), 2, Seen.TAPE);
        }
        changes("house() of m7, which has a FAULT", Boxes::all, FuseBox::house, 2, Seen.TAPE);
    }

    private static void houseAlone() {
        DUE.at("an ACT is one of the HOUSE alone");
        changes("minutes(1)", Boxes::all, x -> x.minutes(1), 2, Seen.HOUSE);
        changes("minutes(24)", Boxes::mainOut, x -> x.minutes(24), 2, Seen.HOUSE);
        changes("turn(0, 0)", Boxes::all, x -> x.turn(0, 0), 2, Seen.HOUSE);
        changes("turn(3, 1)", Boxes::all, x -> x.turn(3, 1), 2, Seen.HOUSE);
        changes("plug(0, 3)", Boxes::all, x -> x.plug(0, 3), 2, Seen.HOUSE);
        changes("mend(1)", Boxes::all, x -> x.mend(1), 2, Seen.HOUSE);
        changes("mains()", Boxes::mainOut, FuseBox::mains, 2, Seen.HOUSE);
        changes("rate(2, 20)", Boxes::all, x -> x.rate(2, 20), 2, Seen.HOUSE);
        changes("undo()", Boxes::all, FuseBox::undo, 2, Seen.HOUSE);
        changes("an ACT that is undone", Boxes::all, x -> x.plug(0, 3) + x.undo(), 2);
        changes("restore(0)", Boxes::all, x -> x.restore(0), 2, Seen.HOUSE);
    }

    private static void newHouse() {
        DUE.at("A HOUSE that is read stands in place of the one before: ROWS, IMAGES, THE TRACE are not of it");
        changes("house()", Boxes::all, x -> {
            Due.feed(x, ";c2;t0,3,1;");
            return x.house();
        }, 2, Seen.HOUSE, Seen.TAPE);
        DUE.at("The number of the latest FAULT, also behind a HOUSE that was read");
        FuseBox x = Boxes.all();
        Due.feed(x, ";c2;t0,3,1;");
        DUE.is("house()", x.house(), 1);
        DUE.is("fault()", x.fault(), 2);
    }

    private static void imagesAlone() {
        DUE.at("An IMAGE is kept of the HOUSE, which stays, as does the other one");
        changes("image(0)", Boxes::all, x -> x.image(0), 2, Seen.IMAGE_0);
        changes("image(1)", Boxes::all, x -> x.image(1), 2, Seen.IMAGE_1);
        changes("image(1), MAIN out", Boxes::mainOut, x -> x.image(1), 2, Seen.IMAGE_1);
    }

    private static void traceAlone() {
        DUE.at("An ASK changes THE TRACE alone");
        for (int line = 0; line < 4; line++) {
            int l = line;
            changes("ask(" + l + ", 1)", Boxes::all, x -> x.ask(l, 1), 2, Seen.TRACE);
        }
        changes("ask(0, 0) once more", Boxes::all, x -> x.ask(0, 0), 2);
    }

    /** The bytes of a text come one by one, whatever calls are made between them. */
    private static void bytesOneByOne() {
        DUE.at("a HOUSE is read from all bytes that came, in their order, with other calls between them");
        FuseBox x = new FuseBox();
        String text = "m31;s4;b5;t1,6,1;t0,7,0;";
        for (int i = 0; i < text.length(); i++) {
            DUE.is("feed, byte " + i, x.feed(text.charAt(i)), i + 1);
            between(x, i);
        }
        DUE.is("house()", x.house(), 2);
        DUE.is("MAIN", x.count(4), 31);
        DUE.is("KINDS", x.kind(0) * 10 + x.kind(1), 24);
        DUE.is("RATES", x.line(0, 0) * 10 + x.line(1, 0), 45);
        DUE.is("LINES of THINGS", x.thing(0, 0) * 10 + x.thing(1, 0), 10);
        DUE.is("LOADS", x.thing(0, 1) * 10 + x.thing(1, 1), 67);
        DUE.is("ON", x.thing(0, 2) * 10 + x.thing(1, 2), 10);
    }

    private static void between(FuseBox x, int i) {
        switch (i % 8) {
            case 0: x.row(0, 2, 8); break;
            case 1: x.set(0, i % 8, 109); break;
            case 2: x.minutes(1); break;
            case 3: x.undo(); break;
            case 4: x.restore(0); break;
            case 5: x.later(3, 1); break;
            case 6: x.image(1); break;
            default: x.feed(256); break;
        }
    }

    // ---- answers go by the house alone

    private static final String[] HOUSES = {"m40;w6;s5;q7;c4;t0,8,1;t1,9,1;t2,5,1;t2,12,0;t3,6,1;t0,2,1;", "m9;b5;t0,4,1;t0,2,0;"};
    private static final String[] FAULTY = {"", "m5;w", "m5;w1;t0,1,0", "m9;s2;c3;t1,20,1;t0,19,1;t0,18,",
        "m60;c1;c2;c3;c4;t0,1,1;t1,1,1;t2,1,1;t3,1,1;t0,1,1;t0,1,1;t"};
    private static final String[] OTHERS = {"m1;c1;t0,20,1;", "m60;c1;q2;b3;s4;t3,1,0;t2,2,1;t1,3,0;t0,4,1;t0,5,1;t0,6,1;"};

    private static FuseBox minuteOf(String text) {
        FuseBox x = Due.box(text);
        x.row(0, 0, 2);
        x.set(0, 0, 4);
        x.set(0, 1, 6);
        x.minutes(1);
        return x;
    }

    private static void byTheHouseAlone() {
        for (String text : HOUSES) {
            FuseBox twin = minuteOf(text);
            for (int call = 0; call < LOOKS.size(); call++) {
                ToIntFunction<FuseBox> look = LOOKS.get(call);
                int want = look.applyAsInt(twin);
                DUE.at("call " + call + " of " + text);
                for (String faulty : FAULTY) {
                    DUE.is("behind the FAULT of " + faulty, look.applyAsInt(fed(minuteOf(text), faulty)), want);
                }
                for (String other : OTHERS) {
                    DUE.is("behind " + other + ", put back", look.applyAsInt(putBack(minuteOf(text), other)), want);
                }
                DUE.is("behind other days", look.applyAsInt(foretold(minuteOf(text))), want);
            }
        }
    }

    private static FuseBox fed(FuseBox x, String text) {
        Due.feed(x, text);
        x.house();
        return x;
    }

    private static FuseBox putBack(FuseBox x, String other) {
        x.image(1);
        fed(x, other);
        x.minutes(2);
        x.restore(1);
        return x;
    }

    /** From 15 and from 999997 the first draw turns a thing. */
    private static FuseBox foretold(FuseBox x) {
        x.drawn(60, 15, 0);
        x.drawn(1, 999997, 0);
        return x;
    }

    private static final List<ToIntFunction<FuseBox>> LOOKS = looks();

    private static List<ToIntFunction<FuseBox>> looks() {
        List<ToIntFunction<FuseBox>> looks = new ArrayList<>(List.of(FuseBox::dark, x -> x.later(2, 0), x -> x.later(2, 1),
            x -> x.later(2, 2), x -> x.plugs(3, -1), x -> x.drawn(9, 5, 0), x -> x.drawn(9, 5, 1)));
        for (int what = 0; what < 8; what++) {
            int w = what;
            looks.add(x -> x.count(w));
        }
        for (int line = 0; line < 4; line++) {
            int l = line;
            looks.addAll(List.of(x -> x.heat(l, 2), x -> x.lost(l), x -> x.holds(l, 3), x -> x.faulty(l, 3), x -> x.kind(l)));
            looks.addAll(List.of(x -> x.chance(l, 3, 4, 0), x -> x.chance(l, 3, 4, 1), x -> x.ask(l, 0), x -> x.ask(l, 1)));
            for (int what = 0; what < 6; what++) {
                int w = what;
                looks.addAll(List.of(x -> x.line(l, w), x -> x.as(l, w), x -> x.fits(l, 0, 0, 2, w)));
            }
        }
        for (int thing = 0; thing < 6; thing++) {
            int t = thing;
            looks.addAll(List.of(x -> x.shed(t, 3, 0), x -> x.shed(t, 3, 1), x -> x.plugs(3, t), x -> x.bill(t, 997)));
            looks.addAll(List.of(x -> x.thing(t, 0), x -> x.thing(t, 1), x -> x.thing(t, 2), x -> x.thing(t, 3)));
        }
        return looks;
    }
}
