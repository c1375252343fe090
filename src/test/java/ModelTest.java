import java.util.Random;

/** Long runs of drawn calls (seeds are fixed), each answer held against that of PlainModel. */
public final class ModelTest {
    private static final int RUNS = 1500, CALLS = 512;

    private final Due due = new Due();
    private Random random;
    private FuseBox box;
    private PlainModel model;

    public static void main(String[] args) {
        ModelTest test = new ModelTest();
        for (int run = 0; run < RUNS && test.due.wrong() == 0; run++) {
            test.run(run);
        }
        test.due.end();
    }

    private void run(int number) {
        random = new Random(1000 + number);
        box = new FuseBox();
        model = new PlainModel();
        due.at("run " + number);
        int call = 0;
        if (number % 25 == 7) {
            muchUsed(call);
            return;
        }
        if (number % 10 != 0) {
            call += house();
        }
        while (call < CALLS) {
            call += random.nextInt(60) == 0 ? house() : random.nextInt(150) == 0 ? brokenHouse() : one(number % 2);
        }
    }

    /** One house that uses 55 to 60 a minute until USED is near its limit, and then is foretold, changed, put back. */
    private void muchUsed(int call) {
        String[] texts = {"m60;b20;b20;b20;t0,20,1;t1,20,1;t2,20,1;", "m60;w20;s20;b15;t0,20,1;t1,20,1;t2,9,1;t2,6,1;t0,3,0;"};
        call += feed(texts[below(2)]);
        int days = 69 + below(8);
        for (int i = 0; i < days; i++, call++) {
            due.is("minutes(24)", box.minutes(24), model.minutes(24));
        }
        due.is("image(0)", box.image(0), model.image(0));
        for (call++; call < CALLS; call++) {
            if (below(20) == 0) {
                due.is("restore(0)", box.restore(0), model.restore(0));
            } else if (below(8) == 0) {
                usedMore();
            } else {
                one(1);
            }
        }
    }

    private void usedMore() {
        int n = about(1, 12), t = about(-1, 4), m = about(0, 60), s = about(1, 999999);
        due.is("plugs(" + n + ", " + t + ")", box.plugs(n, t), model.plugs(n, t));
        due.is("drawn(" + m + ", " + s + ", 0)", box.drawn(m, s, 0), model.drawn(m, s, 0));
        due.is("later(" + m + ", 2)", box.later(m, 2), model.later(m, 2));
        due.is("count(7)", box.count(7), model.count(7));
    }

    private int below(int n) {
        return random.nextInt(n);
    }

    /** Mostly least to most, now and then just beyond, or far off. */
    private int about(int least, int most) {
        int pick = below(40);
        if (pick == 0) return least - 1;
        if (pick == 1) return most + 1;
        if (pick == 2) return below(2) == 0 ? Integer.MIN_VALUE : Integer.MAX_VALUE;
        return least + below(most - least + 1);
    }

    private String text() {
        StringBuilder text = new StringBuilder("m").append(1 + below(60)).append(';');
        int lines = below(4) == 0 ? 1 + below(4) : 4;
        int things = below(4) == 0 ? 1 + below(6) : 6;
        for (int l = 0; l < lines; l++) {
            text.append("wsqbc".charAt(below(5))).append(1 + below(below(2) == 0 ? 8 : 20)).append(';');
        }
        for (int t = 0; t < things; t++) {
            text.append('t').append(below(lines)).append(',').append(1 + below(below(2) == 0 ? 9 : 20));
            text.append(',').append(below(4) == 0 ? 0 : 1).append(';');
        }
        return text.toString();
    }

    private int feed(String text) {
        for (int i = 0; i < text.length(); i++) {
            int letter = text.charAt(i);
            due.is("feed(" + letter + ")", box.feed(letter), model.feed(letter));
        }
        due.is("house() of " + text, box.house(), model.house());
        due.is("fault()", box.fault(), model.fault());
        return text.length() + 2;
    }

    private int house() {
        return feed(text());
    }

    /** A house with one letter put in, taken out, or changed, or cut off. */
    private int brokenHouse() {
        StringBuilder text = new StringBuilder(text());
        String letters = "mwsqbct,;0123456789xA ";
        char letter = letters.charAt(below(letters.length()));
        int at = below(text.length());
        switch (below(5)) {
            case 0: text.insert(at, letter); break;
            case 1: text.deleteCharAt(at); break;
            case 2: text.setCharAt(at, letter); break;
            case 3: text.setLength(at); break;
            default: text.append(text()); break;
        }
        return feed(text.toString());
    }

    private int one(int calm) {
        int pick = below(100);
        if (pick < 30) {
            act(calm);
        } else if (pick < 45) {
            look();
        } else if (pick < 70) {
            foretell();
        } else if (pick < 80) {
            fit();
        } else if (pick < 90) {
            row();
        } else {
            asked();
        }
        return 1;
    }

    private int line() {
        return about(0, 3);
    }

    private int thing() {
        return about(0, 5);
    }

    private void act(int calm) {
        switch (below(9)) {
            case 0:
            case 1: {
                int n = calm == 1 && below(3) > 0 ? 1 + below(3) : about(1, 24);
                due.is("minutes(" + n + ")", box.minutes(n), model.minutes(n));
                break;
            }
            case 2: {
                int t = thing(), on = about(0, 1);
                due.is("turn(" + t + ", " + on + ")", box.turn(t, on), model.turn(t, on));
                break;
            }
            case 3: {
                int t = thing(), l = line();
                due.is("plug(" + t + ", " + l + ")", box.plug(t, l), model.plug(t, l));
                break;
            }
            case 4: {
                int l = line();
                due.is("mend(" + l + ")", box.mend(l), model.mend(l));
                break;
            }
            case 5: due.is("mains()", box.mains(), model.mains()); break;
            case 6: {
                int l = line(), v = about(1, 20);
                due.is("rate(" + l + ", " + v + ")", box.rate(l, v), model.rate(l, v));
                break;
            }
            case 7: due.is("undo()", box.undo(), model.undo()); break;
            default: {
                int k = about(0, 1);
                if (below(2) == 0) {
                    due.is("image(" + k + ")", box.image(k), model.image(k));
                } else if (below(4) == 0) {
                    due.is("restore(" + k + ")", box.restore(k), model.restore(k));
                }
            }
        }
    }

    private void look() {
        int l = line(), t = thing(), a = about(0, 5), b = about(0, 3), c = about(0, 9);
        due.is("line(" + l + ", " + a + ")", box.line(l, a), model.line(l, a));
        due.is("thing(" + t + ", " + b + ")", box.thing(t, b), model.thing(t, b));
        due.is("count(" + c + ")", box.count(c), model.count(c));
    }

    private void foretell() {
        int l = line(), t = thing();
        switch (below(11)) {
            case 0: { int d = about(0, 60); due.is("heat(" + l + ", " + d + ")", box.heat(l, d), model.heat(l, d)); break; }
            case 1: { int d = about(0, 60), w = about(0, 2); due.is("later(" + d + ", " + w + ")", box.later(d, w), model.later(d, w)); break; }
            case 2: due.is("lost(" + l + ")", box.lost(l), model.lost(l)); break;
            case 3: due.is("dark()", box.dark(), model.dark()); break;
            case 4: { int n = about(1, 30), w = about(0, 1); due.is("shed(" + t + ", " + n + ", " + w + ")", box.shed(t, n, w), model.shed(t, n, w)); break; }
            case 5: {
                if (below(8) == 0) {
                    int n = about(1, 12), w = about(-1, 5);
                    due.is("plugs(" + n + ", " + w + ")", box.plugs(n, w), model.plugs(n, w));
                }
                break;
            }
            case 6: { int n = about(1, 30); due.is("holds(" + l + ", " + n + ")", box.holds(l, n), model.holds(l, n)); break; }
            case 7: { int n = about(1, 30); due.is("faulty(" + l + ", " + n + ")", box.faulty(l, n), model.faulty(l, n)); break; }
            case 8: { int n = about(0, 999); due.is("bill(" + t + ", " + n + ")", box.bill(t, n), model.bill(t, n)); break; }
            case 9: {
                int n = about(0, 60), c = about(0, 10), w = about(0, 1);
                due.is("chance(" + l + ", " + n + ", " + c + ", " + w + ")", box.chance(l, n, c, w), model.chance(l, n, c, w));
                break;
            }
            default: {
                int n = about(0, 60), s = about(1, 999999), w = about(0, 1);
                due.is("drawn(" + n + ", " + s + ", " + w + ")", box.drawn(n, s, w), model.drawn(n, s, w));
            }
        }
    }

    /** A row as the line really heats, with a wrong item now and then, and a copy of it; so some fit and some do not. */
    private void fit() {
        int r = below(8), q = below(8), l = line(), n = 1 + below(12), from = below(4), to = below(4), lane = below(3);
        newRow(r, lane);
        for (int i = 0; i < n; i++) {
            int h = below(30) == 0 ? below(20) : model.heat(l, i + 1);
            due.is("set(" + r + ", " + (from + i) + ", " + h + ")", box.set(r, from + i, h), model.set(r, from + i, h));
        }
        if (q != r) {
            newRow(q, lane);
        }
        due.is("copy(" + r + ", " + from + ", " + q + ", " + to + ", " + n + ")", box.copy(r, from, q, to, n), model.copy(r, from, q, to, n));
        for (int w = 0; w < 5; w++) {
            fit(l, q, below(20) == 0 ? about(0, 16) : to, below(20) == 0 ? about(1, 12) : n, w);
        }
        fit(l, about(0, 7), about(0, 16), about(1, 12), about(0, 4));
        due.is("status()", box.status(), model.status());
    }

    private void newRow(int r, int lane) {
        due.is("row(" + r + ", " + lane + ", 16)", box.row(r, lane, 16), model.row(r, lane, 16));
    }

    private void fit(int l, int row, int i, int n, int w) {
        due.is("fits(" + l + ", " + row + ", " + i + ", " + n + ", " + w + ")", box.fits(l, row, i, n, w), model.fits(l, row, i, n, w));
    }

    private void row() {
        int r = about(0, 7), q = about(0, 7), i = about(0, 12), j = about(0, 12), n = about(0, 12);
        switch (below(6)) {
            case 0:
            case 1: {
                int lane = about(0, 2), size = below(3) == 0 ? about(0, 40) : 12;
                due.is("row(" + r + ", " + lane + ", " + size + ")", box.row(r, lane, size), model.row(r, lane, size));
                break;
            }
            case 2:
            case 3: {
                int v = below(2) == 0 ? random.nextInt() : about(-200, 200);
                due.is("set(" + r + ", " + i + ", " + v + ")", box.set(r, i, v), model.set(r, i, v));
                break;
            }
            case 4:
                due.is("copy(" + r + ", " + i + ", " + q + ", " + j + ", " + n + ")", box.copy(r, i, q, j, n), model.copy(r, i, q, j, n));
                break;
            default:
                due.is("drop(" + r + ")", box.drop(r), model.drop(r));
        }
        due.is("status()", box.status(), model.status());
    }

    private void asked() {
        int l = line();
        switch (below(4)) {
            case 0: due.is("kind(" + l + ")", box.kind(l), model.kind(l)); break;
            case 1: { int k = about(0, 5); due.is("as(" + l + ", " + k + ")", box.as(l, k), model.as(l, k)); break; }
            case 2: {
                int w = about(0, 1);
                due.is("ask(" + l + ", " + w + ")", box.ask(l, w), model.ask(l, w));
                for (int i = -1; i < 8; i++) {
                    due.is("trace(" + i + ")", box.trace(i), model.trace(i));
                }
                break;
            }
            default: due.is("status()", box.status(), model.status());
        }
    }
}
