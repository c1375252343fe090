import java.util.ArrayDeque;
import java.util.ArrayList;
import java.util.Deque;
import java.util.List;
import java.util.function.Consumer;
import java.util.function.Predicate;
import java.util.regex.Matcher;
import java.util.regex.Pattern;

/**
 * The document once more, written by itself and as slowly as it reads, to hold FuseBox against: every state is a
 * new object, every search tries all there is, numbers may be as large as they like.
 */
final class PlainModel {
    static final int NONE = -1000000, BAD = -1000001, STATE = -1000002, FULL = -1000003;

    static final class Line {
        char sort;
        int rate;
        int heat;
        boolean dead;
        int coilMinutes;

        Line same() {
            Line l = new Line();
            l.sort = sort;
            l.rate = rate;
            l.heat = heat;
            l.dead = dead;
            l.coilMinutes = coilMinutes;
            return l;
        }

        int kind() {
            return "?wsqbc".indexOf(sort);
        }
    }

    static final class Thing {
        int line;
        int load;
        boolean on;

        Thing same() {
            Thing t = new Thing();
            t.line = line;
            t.load = load;
            t.on = on;
            return t;
        }
    }

    static final class State {
        List<Line> lines = new ArrayList<>();
        List<Thing> things = new ArrayList<>();
        int main;
        boolean in = true;
        int minute;
        int used;

        State same() {
            State s = new State();
            lines.forEach(l -> s.lines.add(l.same()));
            things.forEach(t -> s.things.add(t.same()));
            s.main = main;
            s.in = in;
            s.minute = minute;
            s.used = used;
            return s;
        }

        boolean live(int l) {
            return in && !lines.get(l).dead;
        }

        boolean runs(int t) {
            return things.get(t).on && live(things.get(t).line);
        }

        int flow(int l) {
            return live(l) ? things.stream().filter(t -> t.on && t.line == l).mapToInt(t -> t.load).sum() : 0;
        }

        int liveBits() {
            return bits(lines.size(), this::live);
        }

        int deadBits() {
            return bits(lines.size(), l -> lines.get(l).dead);
        }

        int runBits() {
            return bits(things.size(), this::runs);
        }

        void mend(Line l) {
            l.dead = false;
            l.coilMinutes = 0;
            l.heat = 0;
        }

        /** The state one minute on. */
        State next() {
            State s = same();
            int together = 0;
            for (int l = 0; l < lines.size(); l++) {
                together += flow(l);
                step(lines.get(l), s.lines.get(l), live(l), flow(l));
            }
            s.in = in && together <= main;
            s.used = Math.min(99999, used + together);
            s.minute = minute + 1;
            return s;
        }

        private static void step(Line was, Line is, boolean live, int flow) {
            int over = flow - was.rate;
            if (!live) {
                is.heat = was.heat > 0 ? was.heat - 1 : 0;
            } else if (was.sort == 'w' || was.sort == 's' || was.sort == 'q') {
                int by = over <= 0 ? -1 : was.sort == 's' ? over / 2 : over;
                is.heat = Math.min(99, Math.max(0, was.heat + by));
                is.dead = is.heat >= 10 || was.sort == 'q' && flow >= 2 * was.rate;
            } else if (over > 0) {
                is.dead = true;
                is.coilMinutes = was.sort == 'c' ? 3 : 0;
            }
            if (was.sort == 'c' && was.dead) {
                is.coilMinutes = was.coilMinutes - 1;
                is.dead = is.coilMinutes > 0;
            }
        }

        State after(int d) {
            State s = this;
            for (int i = 0; i < d; i++) {
                s = s.next();
            }
            return s;
        }

        /** What is used in n minutes by themselves: the sum of the flows, without the limit of what the house keeps. */
        int usedIn(int n) {
            int sum = 0;
            State s = this;
            for (int i = 0; i < n; i++, s = s.next()) {
                for (int l = 0; l < lines.size(); l++) {
                    sum += s.flow(l);
                }
            }
            return sum;
        }

        State with(Consumer<State> change) {
            State s = same();
            change.accept(s);
            return s;
        }

        boolean always(int from, int n, Predicate<State> so) {
            State s = after(from);
            for (int i = from; i <= n; i++, s = s.next()) {
                if (!so.test(s)) {
                    return false;
                }
            }
            return true;
        }
    }

    interface Test {
        boolean of(int i);
    }

    static int bits(int n, Test test) {
        int b = 0;
        for (int i = 0; i < n; i++) {
            b += test.of(i) ? 1 << i : 0;
        }
        return b;
    }

    private final int[][] rows = new int[8][];
    private final int[] lanes = new int[8];
    private final StringBuilder tape = new StringBuilder();
    private State house;
    private final Deque<State> acts = new ArrayDeque<>();
    private final State[] images = new State[2];
    private final List<Integer> trace = new ArrayList<>();
    private int fault, status;

    private int found(int f) {
        status = f;
        return -1000010 - f;
    }

    private int ok(int answer) {
        status = 0;
        return answer;
    }

    private static boolean out(int v, int least, int most) {
        return v < least || v > most;
    }

    int row(int row, int lane, int n) {
        if (out(row, 0, 7) || out(lane, 0, 2) || n > 40) return BAD;
        if (n < 0) return found(4);
        rows[row] = new int[n];
        lanes[row] = lane;
        return ok(n);
    }

    int set(int row, int i, int v) {
        if (out(row, 0, 7)) return BAD;
        if (rows[row] == null) return found(1);
        if (out(i, 0, rows[row].length - 1)) return found(2);
        rows[row][i] = lanes[row] == 0 ? (byte) v : lanes[row] == 1 ? (short) v : v;
        return ok(rows[row][i]);
    }

    int copy(int a, int i, int b, int j, int n) {
        if (out(a, 0, 7) || out(b, 0, 7)) return BAD;
        if (rows[a] == null || rows[b] == null) return found(1);
        if (lanes[a] != lanes[b]) return found(5);
        if (i < 0 || j < 0 || n < 0 || (long) i + n > rows[a].length || (long) j + n > rows[b].length) return found(2);
        int[] ahead = rows[a].clone();
        for (int k = 0; k < n; k++) rows[b][j + k] = ahead[i + k];
        return ok(n);
    }

    int drop(int row) {
        if (out(row, 0, 7)) return BAD;
        if (rows[row] == null) return found(1);
        int n = rows[row].length;
        rows[row] = null;
        return ok(n);
    }

    int feed(int letter) {
        if (out(letter, 0, 255)) return BAD;
        if (tape.length() == 90) return FULL;
        tape.append((char) letter);
        return tape.length();
    }

    private static final Pattern TOKEN = Pattern.compile("[0-9]+|[a-z]|[,;]|.", Pattern.DOTALL);

    /** What may stand there, by what stood there before, as a small machine; answers the place, or -1. */
    private int read(String text, State s) {
        Matcher m = TOKEN.matcher(text);
        String place = "m";
        int line = 0;
        while (true) {
            boolean end = !m.find();
            int at = end ? text.length() : m.start();
            String t = end ? "" : m.group();
            boolean number = t.matches("[0-9]{1,2}");
            int v = number ? Integer.parseInt(t) : -1;
            int bad = 0;
            String next = "";
            switch (place) {
                case "m": bad = t.equals("m") ? 0 : 1; next = "MAIN"; break;
                case "MAIN": bad = !number ? 1 : out(v, 1, 60) ? 2 : 0; s.main = v; next = "m;"; break;
                case "m;": bad = t.equals(";") ? 0 : 1; next = "line"; break;
                case "line":
                case "line or thing":
                case "thing or end":
                    if (end && place.equals("thing or end")) return -1;
                    if (!place.equals("thing or end") && t.matches("[wsqbc]")) {
                        bad = s.lines.size() == 4 ? 3 : 0;
                        s.lines.add(new Line());
                        s.lines.get(s.lines.size() - 1).sort = t.charAt(0);
                        next = "RATE";
                    } else if (!place.equals("line") && t.equals("t")) {
                        bad = s.things.size() == 6 ? 3 : 0;
                        s.things.add(new Thing());
                        next = "LINE";
                    } else {
                        bad = 1;
                    }
                    break;
                case "RATE": bad = !number ? 1 : out(v, 1, 20) ? 2 : 0; s.lines.get(s.lines.size() - 1).rate = v; next = "l;"; break;
                case "l;": bad = t.equals(";") ? 0 : 1; next = "line or thing"; break;
                case "LINE": bad = !number ? 1 : out(v, 0, s.lines.size() - 1) ? 2 : 0; line = v; next = "t,"; break;
                case "t,": bad = t.equals(",") ? 0 : 1; s.things.get(s.things.size() - 1).line = line; next = "LOAD"; break;
                case "LOAD": bad = !number ? 1 : out(v, 1, 20) ? 2 : 0; s.things.get(s.things.size() - 1).load = v; next = "t,,"; break;
                case "t,,": bad = t.equals(",") ? 0 : 1; next = "ON"; break;
                case "ON": bad = !number ? 1 : out(v, 0, 1) ? 2 : 0; s.things.get(s.things.size() - 1).on = v == 1; next = "t;"; break;
                default: bad = t.equals(";") ? 0 : 1; next = "thing or end"; break;
            }
            if (bad != 0) {
                fault = bad;
                return at;
            }
            place = next;
        }
    }

    int house() {
        State s = new State();
        int at = read(tape.toString(), s);
        tape.setLength(0);
        if (at >= 0) return -1000100 - at;
        house = s;
        acts.clear();
        return s.lines.size();
    }

    int fault() {
        return fault;
    }

    private void act(State then) {
        acts.push(house);
        if (acts.size() > 24) acts.removeLast();
        house = then;
    }

    private boolean noLine(int l) {
        return house == null || out(l, 0, house.lines.size() - 1);
    }

    private boolean noThing(int t) {
        return house == null || out(t, 0, house.things.size() - 1);
    }

    int minutes(int n) {
        if (house == null) return STATE;
        if (out(n, 1, 24)) return BAD;
        if (house.minute + n > 9999) return FULL;
        for (int i = 0; i < n; i++) act(house.next());
        return house.liveBits();
    }

    int turn(int thing, int on) {
        if (noThing(thing) || out(on, 0, 1)) return BAD;
        if (house.things.get(thing).on == (on == 1)) return STATE;
        act(house.with(s -> s.things.get(thing).on = on == 1));
        return house.runBits();
    }

    int plug(int thing, int line) {
        if (noThing(thing) || noLine(line)) return BAD;
        int was = house.things.get(thing).line;
        if (was == line) return STATE;
        act(house.with(s -> s.things.get(thing).line = line));
        return was;
    }

    int mend(int line) {
        if (noLine(line)) return BAD;
        if (!house.lines.get(line).dead) return STATE;
        act(house.with(s -> s.mend(s.lines.get(line))));
        return house.deadBits();
    }

    int mains() {
        if (house == null || house.in) return STATE;
        act(house.with(s -> s.in = true));
        return house.liveBits();
    }

    int rate(int line, int v) {
        if (noLine(line) || out(v, 1, 20)) return BAD;
        int was = house.lines.get(line).rate;
        act(house.with(s -> s.lines.get(line).rate = v));
        return was;
    }

    int undo() {
        if (acts.isEmpty()) return STATE;
        house = acts.pop();
        return acts.size();
    }

    int line(int line, int what) {
        if (noLine(line) || out(what, 0, 5)) return BAD;
        Line l = house.lines.get(line);
        int yet = l.sort == 'c' ? l.coilMinutes : l.dead ? 1 : 0;
        int plugged = bits(house.things.size(), t -> house.things.get(t).line == line);
        return new int[] {l.rate, l.heat, yet, house.live(line) ? 1 : 0, house.flow(line), plugged}[what];
    }

    int thing(int thing, int what) {
        if (noThing(thing) || out(what, 0, 3)) return BAD;
        Thing t = house.things.get(thing);
        return new int[] {t.line, t.load, t.on ? 1 : 0, house.runs(thing) ? 1 : 0}[what];
    }

    int heat(int line, int d) {
        if (noLine(line) || out(d, 0, 60)) return BAD;
        return house.after(d).lines.get(line).heat;
    }

    int later(int d, int what) {
        if (house == null) return STATE;
        if (out(d, 0, 60) || out(what, 0, 2)) return BAD;
        State s = house.after(d);
        return new int[] {s.liveBits(), s.runBits(), s.used}[what];
    }

    int lost(int line) {
        if (noLine(line)) return BAD;
        for (int d = 0; d <= 60; d++) if (!house.after(d).live(line)) return d;
        return NONE;
    }

    int dark() {
        if (house == null) return STATE;
        for (int d = 0; d <= 60; d++) if (house.after(d).runBits() == 0) return d;
        return NONE;
    }

    private static void off(State s, int set) {
        for (int t = 0; t < s.things.size(); t++) if ((set >> t & 1) == 1) s.things.get(t).on = false;
    }

    private int onBits() {
        return bits(house.things.size(), t -> house.things.get(t).on);
    }

    int shed(int thing, int n, int what) {
        if (noThing(thing) || out(n, 1, 30) || out(what, 0, 1)) return BAD;
        int others = onBits() & ~(1 << thing);
        for (int many = 0; many <= 6; many++) {
            for (int set = 0; set < 64; set++) {
                int now = set;
                if ((set & others) == set && Integer.bitCount(set) == many
                        && house.with(s -> off(s, now)).always(0, n, s -> s.runs(thing))) {
                    return what == 0 ? many : set;
                }
            }
        }
        return NONE;
    }

    int plugs(int n, int thing) {
        if (house == null) return STATE;
        if (out(n, 1, 12) || out(thing, -1, house.things.size() - 1)) return BAD;
        List<State> ways = new ArrayList<>();
        ways.add(house);
        for (int t = 0; t < house.things.size(); t++) {
            List<State> more = new ArrayList<>();
            for (State w : ways) {
                for (int l = 0; l < house.lines.size(); l++) {
                    int thingNow = t;
                    int lineNow = l;
                    if (house.things.get(t).on) more.add(w.with(s -> s.things.get(thingNow).line = lineNow));
                }
            }
            if (!more.isEmpty()) ways = more;
        }
        State best = null;
        int most = -1;
        for (State w : ways) {
            int used = w.usedIn(n);
            if (used > most) {
                most = used;
                best = w;
            }
        }
        return thing == -1 ? most : best.things.get(thing).line;
    }

    int holds(int line, int n) {
        if (noLine(line) || out(n, 1, 30)) return BAD;
        for (int v = 1; v <= 20; v++) {
            int now = v;
            if (house.with(s -> s.lines.get(line).rate = now).always(1, n, s -> s.live(line))) return v;
        }
        return NONE;
    }

    int faulty(int line, int n) {
        if (noLine(line) || out(n, 1, 30)) return BAD;
        return bits(house.things.size(), t -> house.things.get(t).on
            && house.with(s -> s.things.get(t).on = false).always(1, n, s -> s.live(line)));
    }

    int bill(int thing, int n) {
        if (noThing(thing) || out(n, 0, 999)) return BAD;
        List<Integer> running = new ArrayList<>();
        int all = 0;
        for (int t = 0; t < house.things.size(); t++) {
            if (house.runs(t)) {
                running.add(t);
                all += house.things.get(t).load;
            }
        }
        int[] shares = new int[6];
        int left = n;
        for (int t : running) {
            shares[t] = n * house.things.get(t).load / all;
            left -= shares[t];
        }
        for (int t : running) {
            if (left > 0) {
                shares[t]++;
                left--;
            }
        }
        return shares[thing];
    }

    private boolean heats(State s, int line, int row, int i, int n) {
        for (int k = 0; k < n; k++) {
            s = s.next();
            if (s.lines.get(line).heat != rows[row][i + k]) return false;
        }
        return true;
    }

    private static void sort(Line l, int kind) {
        char was = l.sort;
        l.sort = "?wsqbc".charAt(kind);
        if (l.sort == 'c' && was != 'c') l.coilMinutes = l.dead ? 3 : 0;
    }

    int fits(int line, int row, int i, int n, int what) {
        if (noLine(line) || out(row, 0, 7) || out(n, 1, 12) || out(what, 0, 4)) return BAD;
        if (rows[row] == null) return found(1);
        if (i < 0 || (long) i + n > rows[row].length) return found(2);
        if (what == 0) {
            return ok(bits(6, k -> k > 0 && heats(house.with(s -> sort(s.lines.get(line), k)), line, row, i, n)));
        }
        if (what == 1) {
            return ok(bits(21, v -> v > 0 && heats(house.with(s -> s.lines.get(line).rate = v), line, row, i, n)));
        }
        if (what == 2) {
            return ok(bits(10, h -> heats(house.with(s -> s.lines.get(line).heat = h), line, row, i, n)));
        }
        List<Integer> mains = new ArrayList<>();
        for (int m = 1; m <= 60; m++) {
            int now = m;
            if (heats(house.with(s -> s.main = now), line, row, i, n)) mains.add(m);
        }
        return ok(what == 3 ? mains.size() : mains.isEmpty() ? NONE : mains.get(0));
    }

    int chance(int line, int n, int c, int what) {
        if (noLine(line) || out(n, 0, 60) || out(c, 0, 10) || out(what, 0, 1)) return BAD;
        long above = 0;
        long below = 1;
        int on = onBits();
        for (int k = 0; k < Integer.bitCount(on); k++) below *= 10;
        for (int set = 0; set < 64; set++) {
            if ((set & on) != set) continue;
            long p = 1;
            for (int t = 0; t < 6; t++) if ((on >> t & 1) == 1) p *= (set >> t & 1) == 1 ? c : 10 - c;
            int now = set;
            if (house.with(s -> off(s, now)).after(n).live(line)) above += p;
        }
        for (int p : new int[] {2, 5}) {
            while (above % p == 0 && below % p == 0) {
                above /= p;
                below /= p;
            }
        }
        return (int) (what == 0 ? above : below);
    }

    int drawn(int n, int seed, int what) {
        if (house == null) return STATE;
        if (out(n, 0, 60) || out(seed, 1, 999999) || out(what, 0, 1)) return BAD;
        State s = house.same();
        int used = 0;
        long x = seed;
        for (int i = 0; i < n; i++) {
            x = x * 16807L % 2147483647L;
            if (x % 3 == 0) {
                Thing t = s.things.get((int) (x % s.things.size()));
                t.on = !t.on;
            } else if (x % 5 == 0) {
                for (Line l : s.lines) if (l.dead) s.mend(l);
                s.in = true;
            }
            used += s.usedIn(1);
            s = s.next();
        }
        return what == 0 ? used : Integer.bitCount(s.liveBits());
    }

    int image(int k) {
        if (out(k, 0, 1)) return BAD;
        if (house == null) return STATE;
        images[k] = house;
        return 1;
    }

    int restore(int k) {
        if (out(k, 0, 1)) return BAD;
        if (images[k] == null) return STATE;
        house = images[k];
        acts.clear();
        return 1;
    }

    int kind(int line) {
        return noLine(line) ? BAD : house.lines.get(line).kind();
    }

    private static final int[] PARENT = {-1, 0, 1, 1, 0, 4};

    int as(int line, int kind) {
        if (noLine(line) || out(kind, 0, 5)) return BAD;
        for (int k = house.lines.get(line).kind(); k >= 0; k = PARENT[k]) if (k == kind) return ok(line);
        return found(3);
    }

    /** By ask and kind: the body told for it; 0: none. */
    private static final int[][] BODIES = {{10, 11, 12, 0, 13, 14}, {20, 21, 24, 22, 23, 0}};

    private int begin(int line, int ask) {
        int k = house.lines.get(line).kind();
        while (BODIES[ask][k] == 0) k = PARENT[k];
        return body(line, BODIES[ask][k]);
    }

    private int body(int line, int number) {
        if (trace.size() < 16) trace.add(number);
        switch (number) {
            case 10: return house.lines.get(line).rate;
            case 11: return body(line, 10) + begin(line, 1);
            case 12: return 0 - body(line, 11);
            case 13: return body(line, 10) - 100;
            case 14: return body(line, 13) * 2;
            case 20: return line;
            case 21: return body(line, 20) + house.lines.get(line).heat;
            case 22: return body(line, 21) - 1000;
            case 23: return body(line, 20) - begin(line, 0);
            default: return body(line, 21) * 2;
        }
    }

    int ask(int line, int what) {
        if (noLine(line) || out(what, 0, 1)) return BAD;
        trace.clear();
        return begin(line, what);
    }

    int trace(int i) {
        return out(i, 0, trace.size() - 1) ? NONE : trace.get(i);
    }

    int count(int what) {
        State s = house == null ? new State() : house;
        switch (what) {
            case 0: return Integer.bitCount(bits(8, r -> rows[r] != null));
            case 1: return s.lines.size();
            case 2: return s.things.size();
            case 3: return s.minute;
            case 4: return s.main;
            case 5: return house != null && s.in ? 1 : 0;
            case 6: return s.deadBits();
            case 7: return s.used;
            case 8: return acts.size();
            case 9: return tape.length();
            default: return BAD;
        }
    }

    int status() {
        return status;
    }
}
