/**
 * The fuse box of a house. The promises that it keeps stand in the document, DOC.md; README.md says how to use it.
 *
 * All that a call needs is made in the constructor and used again, so that no later call makes an object.
 */
public final class FuseBox {
    public static final int NONE = -1000000, BAD = -1000001, STATE = -1000002, FULL = -1000003;

    private static final int FINDING = -1000010, FAULT = -1000100;
    private static final int NULL = 1, PLACE = 2, KIND = 3, SIZE = 4, STORE = 5;

    private static final int ROWS = 8, MOST_ITEMS = 40, BYTES = 0, SHORTS = 1, INTS = 2;
    private static final int MOST_LETTERS = 90, MOST_LINES = 4, MOST_THINGS = 6;
    private static final int MOST_MAIN = 60, MOST_RATE = 20, MOST_LOAD = 20;
    private static final int MOST_HEAT = 99, MELTING_HEAT = 10, MOST_USED = 99999, MOST_MINUTE = 9999;
    private static final int MOST_ACTS = 24, IMAGES = 2, MOST_TRACE = 16;
    private static final int MOST_FORETOLD = 60, MOST_HELD = 30, MOST_PLUGGED = 12, MOST_TOLD = 12;
    private static final int MOST_BILL = 999, MOST_SEED = 999999;
    private static final int FUSE = 0, WIRE = 1, SLOW = 2, QUICK = 3, BREAKER = 4, COIL = 5;
    private static final int UNTIL_MENDED = 1, COIL_MINUTES = 3;

    private final Row[] rows = new Row[ROWS];
    private final Reader reader = new Reader();
    private final House now;
    /** What is foretold happens here, so that the house itself stays as it is. */
    private final House trial;
    private final House[] images = new House[IMAGES];
    /** How the house was ahead of each act, in a ring that begins at oldestAct. */
    private final House[] acts = new House[MOST_ACTS];
    private int oldestAct, actsKept;
    private final Plugging plugging = new Plugging();
    private final Trace trace = new Trace();
    private int latestFault, latestFinding;

    public FuseBox() {
        Fuse[] fuses = {new Wire(), new Slow(), new Quick(), new Breaker(), new Coil()};
        now = new House(fuses);
        trial = new House(fuses);
        for (int i = 0; i < ROWS; i++) {
            rows[i] = new Row();
        }
        for (int i = 0; i < IMAGES; i++) {
            images[i] = new House(fuses);
        }
        for (int i = 0; i < MOST_ACTS; i++) {
            acts[i] = new House(fuses);
        }
    }

    // ---- rows

    public int row(int row, int lane, int n) {
        if (noRow(row) || lane < BYTES || lane > INTS || n > MOST_ITEMS) {
            return BAD;
        }
        if (n < 0) {
            return found(SIZE);
        }
        rows[row].begin(lane, n);
        return fine(n);
    }

    public int set(int row, int i, int v) {
        if (noRow(row)) {
            return BAD;
        }
        Row r = rows[row];
        if (r.isMissing()) {
            return found(NULL);
        }
        if (!r.has(i, 1)) {
            return found(PLACE);
        }
        r.items[i] = r.cut(v);
        return fine(r.items[i]);
    }

    public int copy(int a, int i, int b, int j, int n) {
        if (noRow(a) || noRow(b)) {
            return BAD;
        }
        Row from = rows[a];
        Row to = rows[b];
        if (from.isMissing() || to.isMissing()) {
            return found(NULL);
        }
        if (from.lane != to.lane) {
            return found(STORE);
        }
        if (!from.has(i, n) || !to.has(j, n)) {
            return found(PLACE);
        }
        System.arraycopy(from.items, i, to.items, j, n);
        return fine(n);
    }

    public int drop(int row) {
        if (noRow(row)) {
            return BAD;
        }
        Row r = rows[row];
        if (r.isMissing()) {
            return found(NULL);
        }
        int had = r.size;
        r.end();
        return fine(had);
    }

    private static boolean noRow(int row) {
        return row < 0 || row >= ROWS;
    }

    private int found(int finding) {
        latestFinding = finding;
        return FINDING - finding;
    }

    private int fine(int answer) {
        latestFinding = 0;
        return answer;
    }

    // ---- houses, acts

    public int feed(int letter) {
        if (letter < 0 || letter > 255) {
            return BAD;
        }
        if (reader.size >= MOST_LETTERS) {
            return FULL;
        }
        return reader.append(letter);
    }

    public int house() {
        int fault = reader.readInto(trial);
        if (fault != 0) {
            latestFault = fault;
            return FAULT - reader.start;
        }
        now.become(trial);
        forgetActs();
        return now.lines;
    }

    public int fault() {
        return latestFault;
    }

    public int minutes(int n) {
        if (noHouse()) {
            return STATE;
        }
        if (n < 1 || n > 24) {
            return BAD;
        }
        if (now.minute + n > MOST_MINUTE) {
            return FULL;
        }
        for (int i = 0; i < n; i++) {
            keepAct();
            now.passMinute();
        }
        return now.liveLines();
    }

    public int turn(int thing, int on) {
        if (noThing(thing) || on < 0 || on > 1) {
            return BAD;
        }
        if (now.isOn(thing) == (on == 1)) {
            return STATE;
        }
        keepAct();
        now.toggle(thing);
        return now.runningThings();
    }

    public int plug(int thing, int line) {
        if (noThing(thing) || noLine(line)) {
            return BAD;
        }
        int was = now.plugged[thing];
        if (was == line) {
            return STATE;
        }
        keepAct();
        now.plugged[thing] = line;
        return was;
    }

    public int mend(int line) {
        if (noLine(line)) {
            return BAD;
        }
        if (!now.isDead(line)) {
            return STATE;
        }
        keepAct();
        now.mendLine(line);
        return now.deadLines();
    }

    public int mains() {
        if (noHouse() || now.mainIn) {
            return STATE;
        }
        keepAct();
        now.mainIn = true;
        return now.liveLines();
    }

    public int rate(int line, int v) {
        if (noLine(line) || v < 1 || v > MOST_RATE) {
            return BAD;
        }
        int was = now.rate[line];
        keepAct();
        now.rate[line] = v;
        return was;
    }

    public int undo() {
        if (actsKept <= 0) {
            return STATE;
        }
        actsKept--;
        now.become(acts[(oldestAct + actsKept) % MOST_ACTS]);
        return actsKept;
    }

    public int line(int line, int what) {
        if (noLine(line)) {
            return BAD;
        }
        switch (what) {
            case 0: return now.rate[line];
            case 1: return now.heat[line];
            case 2: return now.dead[line];
            case 3: return now.isLive(line) ? 1 : 0;
            case 4: return now.flowOf(line);
            case 5: return now.pluggedInto(line);
            default: return BAD;
        }
    }

    public int thing(int thing, int what) {
        if (noThing(thing)) {
            return BAD;
        }
        switch (what) {
            case 0: return now.plugged[thing];
            case 1: return now.load[thing];
            case 2: return now.isOn(thing) ? 1 : 0;
            case 3: return now.runs(thing) ? 1 : 0;
            default: return BAD;
        }
    }

    private boolean noHouse() {
        return now.lines == 0;
    }

    private boolean noLine(int line) {
        return line < 0 || line >= now.lines;
    }

    private boolean noThing(int thing) {
        return thing < 0 || thing >= now.things;
    }

    private void forgetActs() {
        oldestAct = 0;
        actsKept = 0;
    }

    private void keepAct() {
        if (actsKept == MOST_ACTS) {
            oldestAct = (oldestAct + 1) % MOST_ACTS;
            actsKept--;
        }
        acts[(oldestAct + actsKept) % MOST_ACTS].become(now);
        actsKept++;
    }

    // ---- foretold

    public int heat(int line, int d) {
        if (noLine(line) || d < 0 || d > MOST_FORETOLD) {
            return BAD;
        }
        foretell(d);
        return trial.heat[line];
    }

    public int later(int d, int what) {
        if (noHouse()) {
            return STATE;
        }
        if (d < 0 || d > MOST_FORETOLD || what < 0 || what > 2) {
            return BAD;
        }
        foretell(d);
        switch (what) {
            case 0: return trial.liveLines();
            case 1: return trial.runningThings();
            default: return trial.used;
        }
    }

    public int lost(int line) {
        if (noLine(line)) {
            return BAD;
        }
        trial.become(now);
        for (int d = 0; d <= MOST_FORETOLD; d++) {
            if (!trial.isLive(line)) {
                return d;
            }
            trial.passMinute();
        }
        return NONE;
    }

    public int dark() {
        if (noHouse()) {
            return STATE;
        }
        trial.become(now);
        for (int d = 0; d <= MOST_FORETOLD; d++) {
            if (trial.runningThings() == 0) {
                return d;
            }
            trial.passMinute();
        }
        return NONE;
    }

    public int shed(int thing, int n, int what) {
        if (noThing(thing) || n < 1 || n > MOST_HELD || what < 0 || what > 1) {
            return BAD;
        }
        int others = now.on & ~(1 << thing);
        int fewest = MOST_THINGS + 1;
        int which = 0;
        for (int off = 0; off < 1 << MOST_THINGS; off++) {
            if ((off & ~others) == 0 && Integer.bitCount(off) < fewest && runsWithout(off, thing, n)) {
                fewest = Integer.bitCount(off);
                which = off;
            }
        }
        if (fewest > MOST_THINGS) {
            return NONE;
        }
        return what == 0 ? fewest : which;
    }

    public int plugs(int n, int thing) {
        if (noHouse()) {
            return STATE;
        }
        if (n < 1 || n > MOST_PLUGGED || thing < -1 || thing >= now.things) {
            return BAD;
        }
        trial.become(now);
        plugging.search(trial, n);
        return thing == -1 ? plugging.most : plugging.best[thing];
    }

    public int holds(int line, int n) {
        if (noLine(line) || n < 1 || n > MOST_HELD) {
            return BAD;
        }
        for (int v = 1; v <= MOST_RATE; v++) {
            trial.become(now);
            trial.rate[line] = v;
            if (trial.staysLive(line, n)) {
                return v;
            }
        }
        return NONE;
    }

    public int faulty(int line, int n) {
        if (noLine(line) || n < 1 || n > MOST_HELD) {
            return BAD;
        }
        int things = 0;
        for (int t = 0; t < now.things; t++) {
            if (now.isOn(t)) {
                trial.become(now);
                trial.toggle(t);
                if (trial.staysLive(line, n)) {
                    things |= 1 << t;
                }
            }
        }
        return things;
    }

    public int bill(int thing, int n) {
        if (noThing(thing) || n < 0 || n > MOST_BILL) {
            return BAD;
        }
        int all = now.reckonFlows();
        if (!now.runs(thing) || all <= 0) {
            return 0;
        }
        int over = n;
        int runningAhead = 0;
        for (int t = 0; t < now.things; t++) {
            if (now.runs(t)) {
                over -= n * now.load[t] / all;
                runningAhead += t < thing ? 1 : 0;
            }
        }
        return n * now.load[thing] / all + (runningAhead < over ? 1 : 0);
    }

    public int fits(int line, int row, int i, int n, int what) {
        if (noLine(line) || noRow(row) || n < 1 || n > MOST_TOLD || what < 0 || what > 4) {
            return BAD;
        }
        Row r = rows[row];
        if (r.isMissing()) {
            return found(NULL);
        }
        if (!r.has(i, n)) {
            return found(PLACE);
        }
        switch (what) {
            case 0: return fine(sortsThatFit(line, r, i, n));
            case 1: return fine(ratesThatFit(line, r, i, n));
            case 2: return fine(heatsThatFit(line, r, i, n));
            default: return fine(mainsThatFit(line, r, i, n, what == 4));
        }
    }

    public int chance(int line, int n, int c, int what) {
        if (noLine(line) || n < 0 || n > MOST_FORETOLD || c < 0 || c > 10 || what < 0 || what > 1) {
            return BAD;
        }
        int above = 0;
        int below = 1;
        for (int i = 0; i < Integer.bitCount(now.on); i++) {
            below *= 10;
        }
        for (int off = 0; off < 1 << MOST_THINGS; off++) {
            int weight = (off & ~now.on) == 0 ? weightOf(off, c) : 0;
            if (weight > 0 && isLiveWithout(off, line, n)) {
                above += weight;
            }
        }
        int common = commonDivisor(above, below);
        if (common <= 0) {
            return BAD;
        }
        return (what == 0 ? above : below) / common;
    }

    public int drawn(int n, int seed, int what) {
        if (noHouse()) {
            return STATE;
        }
        if (n < 0 || n > MOST_FORETOLD || seed < 1 || seed > MOST_SEED || what < 0 || what > 1) {
            return BAD;
        }
        trial.become(now);
        // The limit of USED is the house's own: what is used in these minutes alone never comes near it.
        trial.used = 0;
        long x = seed;
        for (int i = 0; i < n; i++) {
            x = x * 16807 % 2147483647;
            trial.draw(x);
            trial.passMinute();
        }
        return what == 0 ? trial.used : Integer.bitCount(trial.liveLines());
    }

    public int image(int k) {
        if (noImage(k)) {
            return BAD;
        }
        if (noHouse()) {
            return STATE;
        }
        images[k].become(now);
        return 1;
    }

    public int restore(int k) {
        if (noImage(k)) {
            return BAD;
        }
        if (images[k].lines == 0) {
            return STATE;
        }
        now.become(images[k]);
        forgetActs();
        return 1;
    }

    private static boolean noImage(int k) {
        return k < 0 || k >= IMAGES;
    }

    private void foretell(int d) {
        trial.become(now);
        for (int i = 0; i < d; i++) {
            trial.passMinute();
        }
    }

    private boolean runsWithout(int off, int thing, int n) {
        trial.become(now);
        trial.on &= ~off;
        for (int i = 0; i < n; i++) {
            if (!trial.runs(thing)) {
                return false;
            }
            trial.passMinute();
        }
        return trial.runs(thing);
    }

    private boolean isLiveWithout(int off, int line, int n) {
        trial.become(now);
        trial.on &= ~off;
        for (int i = 0; i < n; i++) {
            trial.passMinute();
        }
        return trial.isLive(line);
    }

    /** How many of 10 to the number of things that are on stand for just these being off. */
    private int weightOf(int off, int c) {
        int weight = 1;
        for (int t = 0; t < now.things; t++) {
            if (now.isOn(t)) {
                weight *= (off >> t & 1) == 1 ? c : 10 - c;
            }
        }
        return weight;
    }

    private static int commonDivisor(int a, int b) {
        // The rest is less than half of a behind two steps, so that all is over long before the bound.
        for (int i = 0; i < 100 && b > 0; i++) {
            int rest = a % b;
            a = b;
            b = rest;
        }
        return a;
    }

    private int sortsThatFit(int line, Row r, int i, int n) {
        int sorts = 0;
        for (int k = WIRE; k <= COIL; k++) {
            trial.become(now);
            trial.takeKind(line, k);
            sorts |= trial.heatsAs(line, r.items, i, n) ? 1 << k : 0;
        }
        return sorts;
    }

    private int ratesThatFit(int line, Row r, int i, int n) {
        int rates = 0;
        for (int v = 1; v <= MOST_RATE; v++) {
            trial.become(now);
            trial.rate[line] = v;
            rates |= trial.heatsAs(line, r.items, i, n) ? 1 << v : 0;
        }
        return rates;
    }

    private int heatsThatFit(int line, Row r, int i, int n) {
        int heats = 0;
        for (int h = 0; h < MELTING_HEAT; h++) {
            trial.become(now);
            trial.heat[line] = h;
            heats |= trial.heatsAs(line, r.items, i, n) ? 1 << h : 0;
        }
        return heats;
    }

    private int mainsThatFit(int line, Row r, int i, int n, boolean wantLeast) {
        int howMany = 0;
        int least = NONE;
        for (int m = MOST_MAIN; m >= 1; m--) {
            trial.become(now);
            trial.main = m;
            if (trial.heatsAs(line, r.items, i, n)) {
                howMany++;
                least = m;
            }
        }
        return wantLeast ? least : howMany;
    }

    // ---- asked

    public int kind(int line) {
        if (noLine(line)) {
            return BAD;
        }
        return now.kind[line];
    }

    public int as(int line, int kind) {
        if (noLine(line) || kind < FUSE || kind > COIL) {
            return BAD;
        }
        if (!isA(now.fuseOf(line), kind)) {
            return found(KIND);
        }
        return fine(line);
    }

    public int ask(int line, int what) {
        if (noLine(line) || what < 0 || what > 1) {
            return BAD;
        }
        trace.empty();
        Fuse fuse = now.fuseOf(line);
        return what == 0 ? fuse.sizeOf(now, line, trace) : fuse.markOf(now, line, trace);
    }

    public int trace(int i) {
        return i < 0 || i >= trace.size ? NONE : trace.bodies[i];
    }

    public int count(int what) {
        switch (what) {
            case 0: return rowsThere();
            case 1: return now.lines;
            case 2: return now.things;
            case 3: return now.minute;
            case 4: return now.main;
            case 5: return now.mainIn ? 1 : 0;
            case 6: return now.deadLines();
            case 7: return now.used;
            case 8: return actsKept;
            case 9: return reader.size;
            default: return BAD;
        }
    }

    public int status() {
        return latestFinding;
    }

    private static boolean isA(Fuse fuse, int kind) {
        switch (kind) {
            case FUSE: return true;
            case WIRE: return fuse instanceof Wire;
            case SLOW: return fuse instanceof Slow;
            case QUICK: return fuse instanceof Quick;
            case BREAKER: return fuse instanceof Breaker;
            default: return fuse instanceof Coil;
        }
    }

    private int rowsThere() {
        int there = 0;
        for (int i = 0; i < ROWS; i++) {
            there += rows[i].isMissing() ? 0 : 1;
        }
        return there;
    }

    // ---- classes inside

    private static final class Row {
        final int[] items = new int[MOST_ITEMS];
        int lane;
        /** Below 0: the row is missing. */
        int size = -1;

        void begin(int newLane, int newSize) {
            lane = newLane;
            size = newSize;
            for (int i = 0; i < MOST_ITEMS; i++) {
                items[i] = 0;
            }
        }

        void end() {
            size = -1;
        }

        boolean isMissing() {
            return size < 0;
        }

        /** Written without i + n, which could wrap around. */
        boolean has(int i, int n) {
            return i >= 0 && n >= 0 && i <= size && n <= size - i;
        }

        int cut(int v) {
            switch (lane) {
                case BYTES: return (byte) v;
                case SHORTS: return (short) v;
                default: return v;
            }
        }
    }

    /** The tape, and the reading of it: it stops at the first token that has a fault. */
    private static final class Reader {
        private static final int NUMBER = 256, END = 257, NO_TOKEN = 258;
        private static final int CANNOT_STAND = 1, NOT_AS_TOLD = 2, NO_ROOM = 3;

        private final int[] letters = new int[MOST_LETTERS];
        int size;
        private int token, value, behind;
        /** Where the token begins. */
        int start;
        private int fault;

        int append(int letter) {
            letters[size] = letter;
            size++;
            return size;
        }

        /** 0, or the number of the fault, the place of which is start then; the tape is empty in both cases. */
        int readInto(House house) {
            fault = 0;
            behind = 0;
            house.clear();
            readToken();
            readLaw(house);
            readLine(house);
            for (int i = 0; i < MOST_LINES && sortOf(token) != 0; i++) {
                readLine(house);
            }
            readThing(house);
            for (int i = 0; i < MOST_THINGS && token == 't'; i++) {
                readThing(house);
            }
            take(END);
            size = 0;
            return fault;
        }

        private void readLaw(House house) {
            take('m');
            house.main = takeNumber(1, MOST_MAIN);
            take(';');
        }

        private void readLine(House house) {
            int sort = sortOf(token);
            if (sort == 0) {
                fail(CANNOT_STAND);
            } else if (house.lines >= MOST_LINES) {
                fail(NO_ROOM);
            }
            take(token);
            int rate = takeNumber(1, MOST_RATE);
            take(';');
            if (fault == 0) {
                house.addLine(sort, rate);
            }
        }

        private void readThing(House house) {
            if (token == 't' && house.things >= MOST_THINGS) {
                fail(NO_ROOM);
            }
            take('t');
            int line = takeNumber(0, house.lines - 1);
            take(',');
            int load = takeNumber(1, MOST_LOAD);
            take(',');
            int on = takeNumber(0, 1);
            take(';');
            if (fault == 0) {
                house.addThing(line, load, on);
            }
        }

        private static int sortOf(int letter) {
            switch (letter) {
                case 'w': return WIRE;
                case 's': return SLOW;
                case 'q': return QUICK;
                case 'b': return BREAKER;
                case 'c': return COIL;
                default: return 0;
            }
        }

        /** Behind a fault nothing is taken any more, so that token and start stay those of the first fault. */
        private void take(int wanted) {
            if (fault != 0) {
                return;
            }
            if (token != wanted) {
                fail(CANNOT_STAND);
            } else {
                readToken();
            }
        }

        private int takeNumber(int least, int most) {
            int number = value;
            if (fault != 0) {
                return number;
            }
            if (token != NUMBER) {
                fail(CANNOT_STAND);
            } else if (number < least || number > most) {
                fail(NOT_AS_TOLD);
            } else {
                readToken();
            }
            return number;
        }

        private void fail(int newFault) {
            if (fault == 0) {
                fault = newFault;
            }
        }

        private void readToken() {
            start = behind;
            if (start >= size) {
                token = END;
                return;
            }
            int letter = letters[start];
            behind = start + 1;
            if (isFigure(start)) {
                readNumber();
            } else if (letter >= 'a' && letter <= 'z' || letter == ',' || letter == ';') {
                token = letter;
            } else {
                token = NO_TOKEN;
            }
        }

        private void readNumber() {
            token = NUMBER;
            value = letters[start] - '0';
            if (isFigure(start + 1)) {
                value = value * 10 + letters[start + 1] - '0';
                behind = start + 2;
                if (isFigure(start + 2)) {
                    token = NO_TOKEN;
                }
            }
        }

        private boolean isFigure(int place) {
            return place < size && letters[place] >= '0' && letters[place] <= '9';
        }
    }

    /** The state of a house; one without lines is none. */
    private static final class House {
        /** By kind, from wires on. They keep nothing, so that all houses share them. */
        private final Fuse[] fuses;
        int lines, things, main, minute, used;
        boolean mainIn;
        final int[] kind = new int[MOST_LINES], rate = new int[MOST_LINES], heat = new int[MOST_LINES];
        /** 0: not dead; of a coil how many minutes yet; else 1. */
        final int[] dead = new int[MOST_LINES];
        private final int[] flow = new int[MOST_LINES];
        final int[] plugged = new int[MOST_THINGS], load = new int[MOST_THINGS];
        /** The things that are on, as bits. */
        int on;

        House(Fuse[] fuses) {
            this.fuses = fuses;
        }

        void clear() {
            lines = 0;
            things = 0;
            main = 0;
            minute = 0;
            used = 0;
            mainIn = true;
            on = 0;
        }

        void addLine(int newKind, int newRate) {
            if (lines < MOST_LINES) {
                kind[lines] = newKind;
                rate[lines] = newRate;
                heat[lines] = 0;
                dead[lines] = 0;
                lines++;
            }
        }

        void addThing(int line, int newLoad, int isOn) {
            if (things < MOST_THINGS) {
                plugged[things] = line;
                load[things] = newLoad;
                on |= isOn << things;
                things++;
            }
        }

        void become(House other) {
            lines = other.lines;
            things = other.things;
            main = other.main;
            minute = other.minute;
            used = other.used;
            mainIn = other.mainIn;
            on = other.on;
            System.arraycopy(other.kind, 0, kind, 0, MOST_LINES);
            System.arraycopy(other.rate, 0, rate, 0, MOST_LINES);
            System.arraycopy(other.heat, 0, heat, 0, MOST_LINES);
            System.arraycopy(other.dead, 0, dead, 0, MOST_LINES);
            System.arraycopy(other.plugged, 0, plugged, 0, MOST_THINGS);
            System.arraycopy(other.load, 0, load, 0, MOST_THINGS);
        }

        Fuse fuseOf(int line) {
            return fuses[kind[line] - WIRE];
        }

        boolean isDead(int line) {
            return dead[line] > 0;
        }

        boolean isLive(int line) {
            return mainIn && dead[line] == 0;
        }

        boolean isOn(int thing) {
            return (on >> thing & 1) == 1;
        }

        boolean runs(int thing) {
            return isOn(thing) && isLive(plugged[thing]);
        }

        void toggle(int thing) {
            on ^= 1 << thing;
        }

        void mendLine(int line) {
            dead[line] = 0;
            heat[line] = 0;
        }

        int deadLines() {
            int bits = 0;
            for (int l = 0; l < lines; l++) {
                bits |= isDead(l) ? 1 << l : 0;
            }
            return bits;
        }

        int liveLines() {
            int bits = 0;
            for (int l = 0; l < lines; l++) {
                bits |= isLive(l) ? 1 << l : 0;
            }
            return bits;
        }

        int runningThings() {
            int bits = 0;
            for (int t = 0; t < things; t++) {
                bits |= runs(t) ? 1 << t : 0;
            }
            return bits;
        }

        int pluggedInto(int line) {
            int bits = 0;
            for (int t = 0; t < things; t++) {
                bits |= plugged[t] == line ? 1 << t : 0;
            }
            return bits;
        }

        int loadThatIsOn() {
            int all = 0;
            for (int t = 0; t < things; t++) {
                all += isOn(t) ? load[t] : 0;
            }
            return all;
        }

        int flowOf(int line) {
            reckonFlows();
            return flow[line];
        }

        /** The flow of all lines together; that of each is in flow then. */
        int reckonFlows() {
            int all = 0;
            for (int l = 0; l < lines; l++) {
                flow[l] = 0;
            }
            for (int t = 0; t < things; t++) {
                if (runs(t)) {
                    flow[plugged[t]] += load[t];
                    all += load[t];
                }
            }
            return all;
        }

        void passMinute() {
            int all = reckonFlows();
            for (int l = 0; l < lines; l++) {
                passLine(l, flow[l]);
            }
            // Only now: the lines go by whether main was in as the minute began.
            if (all > main) {
                mainIn = false;
            }
            used = Math.min(MOST_USED, used + all);
            minute++;
        }

        private void passLine(int line, int lineFlow) {
            if (isLive(line)) {
                Fuse fuse = fuseOf(line);
                heat[line] = fuse.heatBehind(heat[line], lineFlow - rate[line]);
                dead[line] = fuse.deadBehind(heat[line], lineFlow, rate[line]);
                return;
            }
            heat[line] = Math.max(0, heat[line] - 1);
            if (kind[line] == COIL && isDead(line)) {
                dead[line]--;
            }
        }

        boolean staysLive(int line, int n) {
            for (int i = 0; i < n; i++) {
                passMinute();
                if (!isLive(line)) {
                    return false;
                }
            }
            return true;
        }

        /** As which of n minutes (bits) begin the line is live, if it has this load and main stays as it is. */
        int liveMinutes(int line, int lineLoad, int n) {
            int heatNow = heat[line];
            int deadNow = dead[line];
            int bits = 0;
            for (int i = 0; i < n; i++) {
                boolean live = isLive(line);
                bits |= live ? 1 << i : 0;
                passLine(line, live ? lineLoad : 0);
            }
            heat[line] = heatNow;
            dead[line] = deadNow;
            return bits;
        }

        boolean heatsAs(int line, int[] told, int from, int n) {
            for (int i = 0; i < n; i++) {
                passMinute();
                if (heat[line] != told[from + i]) {
                    return false;
                }
            }
            return true;
        }

        /** A line that is dead stays so: only a coil counts minutes, so what is left of them goes with its kind. */
        void takeKind(int line, int newKind) {
            if (isDead(line) && kind[line] != newKind) {
                dead[line] = newKind == COIL ? COIL_MINUTES : UNTIL_MENDED;
            }
            kind[line] = newKind;
        }

        /** What a day's draw does ahead of a minute. */
        void draw(long x) {
            if (x % 3 == 0) {
                toggle(things > 0 ? (int) (x % things) : 0);
            } else if (x % 5 == 0) {
                mendAll();
            }
        }

        private void mendAll() {
            for (int l = 0; l < lines; l++) {
                if (isDead(l)) {
                    mendLine(l);
                }
            }
            mainIn = true;
        }
    }

    /** The search for the plugging by which most is used, over all ways to plug the things that are on. */
    private static final class Plugging {
        private static final int LOADS = MOST_THINGS * MOST_LOAD + 1;

        /** By line and load: the minutes in which it is live. Lines bear on one another through main alone. */
        private final int[] live = new int[MOST_LINES * LOADS];
        private final int[] loads = new int[MOST_LINES], way = new int[MOST_THINGS];
        final int[] best = new int[MOST_THINGS];
        int most;
        private House house;
        private int minutes;

        void search(House searched, int n) {
            house = searched;
            minutes = n;
            most = -1;
            for (int l = 0; l < house.lines; l++) {
                loads[l] = 0;
                foretellLine(l);
            }
            plugFrom(0);
        }

        private void foretellLine(int line) {
            int all = house.loadThatIsOn();
            for (int load = 0; load <= all && load < LOADS; load++) {
                live[line * LOADS + load] = house.liveMinutes(line, load, minutes);
            }
        }

        /** The recursion ends behind the last thing, the sixth at most. */
        private void plugFrom(int thing) {
            if (thing >= house.things || thing >= MOST_THINGS) {
                weigh();
                return;
            }
            if (!house.isOn(thing)) {
                way[thing] = house.plugged[thing];
                plugFrom(thing + 1);
                return;
            }
            for (int l = 0; l < house.lines; l++) {
                way[thing] = l;
                loads[l] += house.load[thing];
                plugFrom(thing + 1);
                loads[l] -= house.load[thing];
            }
        }

        private void weigh() {
            int more = usedThen();
            if (more > most) {
                most = more;
                System.arraycopy(way, 0, best, 0, MOST_THINGS);
            }
        }

        private int usedThen() {
            int all = 0;
            int used = 0;
            for (int l = 0; l < house.lines; l++) {
                all += loads[l];
                used += loads[l] * Integer.bitCount(liveMinutes(l));
            }
            return all > house.main ? usedUntilMainIsOut() : used;
        }

        private int usedUntilMainIsOut() {
            int used = 0;
            int flow = 0;
            for (int i = 0; i < minutes && flow <= house.main; i++) {
                flow = 0;
                for (int l = 0; l < house.lines; l++) {
                    flow += (liveMinutes(l) >> i & 1) * loads[l];
                }
                used += flow;
            }
            return used;
        }

        private int liveMinutes(int line) {
            return live[line * LOADS + loads[line]];
        }
    }

    /** The numbers of the bodies that were begun. */
    private static final class Trace {
        final int[] bodies = new int[MOST_TRACE];
        int size;

        void empty() {
            size = 0;
        }

        void leave(int body) {
            if (size < MOST_TRACE) {
                bodies[size] = body;
                size++;
            }
        }
    }

    /** What the fuses of a kind do; the fuse of which line of which house it is, is told with each call. */
    private abstract static class Fuse {
        /** The heat behind a minute in which the line is live. */
        abstract int heatBehind(int heat, int over);

        /** What the house keeps as dead behind such a minute; the heat is the one behind it, too. */
        abstract int deadBehind(int heat, int flow, int rate);

        int sizeOf(House house, int line, Trace trace) {
            trace.leave(10);
            return house.rate[line];
        }

        int markOf(House house, int line, Trace trace) {
            trace.leave(20);
            return line;
        }
    }

    private static class Wire extends Fuse {
        /** By how much it heats up, if over is above 0. */
        int heatBy(int over) {
            return over;
        }
        int heatBehind(int heat, int over) {
            return over > 0 ? Math.min(MOST_HEAT, heat + heatBy(over)) : Math.max(0, heat - 1);
        }
        int deadBehind(int heat, int flow, int rate) {
            return heat >= MELTING_HEAT ? UNTIL_MENDED : 0;
        }
        int sizeOf(House house, int line, Trace trace) {
            trace.leave(11);
            int lent = super.sizeOf(house, line, trace);
            return lent + markOf(house, line, trace);
        }
        int markOf(House house, int line, Trace trace) {
            trace.leave(21);
            return super.markOf(house, line, trace) + house.heat[line];
        }
    }

    private static final class Slow extends Wire {
        int heatBy(int over) {
            return over / 2;
        }
        int sizeOf(House house, int line, Trace trace) {
            trace.leave(12);
            return -super.sizeOf(house, line, trace);
        }
        int markOf(House house, int line, Trace trace) {
            trace.leave(24);
            return 2 * super.markOf(house, line, trace);
        }
    }

    private static final class Quick extends Wire {
        int deadBehind(int heat, int flow, int rate) {
            return flow >= 2 * rate ? UNTIL_MENDED : super.deadBehind(heat, flow, rate);
        }
        int markOf(House house, int line, Trace trace) {
            trace.leave(22);
            return super.markOf(house, line, trace) - 1000;
        }
    }

    private static class Breaker extends Fuse {
        int deadIfOver() {
            return UNTIL_MENDED;
        }
        int heatBehind(int heat, int over) {
            return heat;
        }
        int deadBehind(int heat, int flow, int rate) {
            return flow > rate ? deadIfOver() : 0;
        }
        int sizeOf(House house, int line, Trace trace) {
            trace.leave(13);
            return super.sizeOf(house, line, trace) - 100;
        }
        int markOf(House house, int line, Trace trace) {
            trace.leave(23);
            int lent = super.markOf(house, line, trace);
            return lent - sizeOf(house, line, trace);
        }
    }

    private static final class Coil extends Breaker {
        int deadIfOver() {
            return COIL_MINUTES;
        }
        int sizeOf(House house, int line, Trace trace) {
            trace.leave(14);
            return 2 * super.sizeOf(house, line, trace);
        }
    }
}
