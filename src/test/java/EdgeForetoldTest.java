import java.util.Arrays;

/** The boundary cases of what is foretold, and of images (section 3, promises 18 to 31), sentence by sentence. */
public final class EdgeForetoldTest {
    private static final int NONE = -1000000, BAD = -1000001, STATE = -1000002;
    private static final int LEAST = Integer.MIN_VALUE, LARGEST = Integer.MAX_VALUE;
    private static final String SIX_ON_ONE = "m60;b20;t0,20,1;t0,20,1;t0,20,1;t0,20,1;t0,20,1;t0,20,1;";

    private static final Due DUE = new Due();

    public static void main(String[] args) {
        heatOn();
        laterOn();
        lost();
        dark();
        darkAtTheLongest();
        shedRuns();
        shedFewest();
        shedNone();
        plugsMinutes();
        plugsFirst();
        plugsBehindMain();
        plugsOfNone();
        holdsLeast();
        holdsMinutes();
        holdsNone();
        faultyOnes();
        faultyMinutes();
        billShares();
        billOfNone();
        fitsPlaces();
        fitsSorts();
        fitsSortsOfDead();
        fitsRates();
        fitsHeats();
        fitsMains();
        fitsNoHeat();
        chances();
        chanceInLowestTerms();
        daysOfNone();
        daysUpToSixty();
        dayByDraw();
        images();
        restored();
        DUE.end();
    }

    private static void at(String sentence) {
        DUE.at(sentence);
    }

    private static void is(String call, long got, long want) {
        DUE.is(call, got, want);
    }

    private static FuseBox after(String text, int minutes) {
        FuseBox x = Due.box(text);
        x.minutes(minutes);
        return x;
    }

    private static void heatOn() {
        at("FORETOLD d MINUTES on (0 to 60): HEAT of a FUSE");
        FuseBox x = after("m60;w1;t0,20,1;t0,20,1;t0,20,1;t0,20,1;t0,20,1;t0,20,1;", 1);
        is("-1", x.heat(0, -1), BAD);
        for (int d = 0; d <= 60; d++) {
            is("heat(0, " + d + ")", x.heat(0, d), 99 - d);
        }
        is("61", x.heat(0, 61), BAD);
        is("nothing changes", x.line(0, 1) * 100 + x.count(3), 9901);
    }

    private static void laterOn() {
        at("FORETOLD d MINUTES on (0 to 60): LINES that are LIVE; THINGS that RUN; USED");
        FuseBox x = Due.box("m60;b20;c1;b20;b20;t0,20,1;t2,3,0;t1,1,1;t3,4,1;t3,5,1;t3,6,1;");
        is("-1", x.later(-1, 2), BAD);
        for (int d = 0; d <= 60; d++) {
            is("later(" + d + ", 0)", x.later(d, 0), 15);
            is("later(" + d + ", 1)", x.later(d, 1), 61);
            is("later(" + d + ", 2)", x.later(d, 2), 36 * d);
        }
        is("61", x.later(61, 2), BAD);
        is("what 3", x.later(60, 3), BAD);
        is("what -1", x.later(60, -1), BAD);
        is("nothing changes", x.count(3) + x.count(7) + x.count(8), 0);
        is("none LIVE", after("m1;w20;t0,2,1;", 1).later(60, 0), 0);
        is("none RUNS", after("m1;w20;t0,2,1;", 1).later(0, 1), 0);
    }

    private static void lost() {
        at("LOST: behind how many MINUTES (0 to 60) a LINE is not LIVE first; NONE");
        is("DEAD now", after("m60;b1;t0,2,1;", 1).lost(0), 0);
        is("a coil, DEAD now", after("m60;c1;t0,2,1;", 3).lost(0), 0);
        is("a coil, back now", after("m60;c1;t0,2,1;", 4).lost(0), 1);
        is("MAIN out now", after("m1;w20;t0,2,1;", 1).lost(0), 0);
        is("by MAIN", Due.box("m1;w20;t0,2,1;").lost(0), 1);
        is("OVER 10", Due.box("m60;w1;t0,11,1;").lost(0), 1);
        is("OVER 9", Due.box("m60;w1;t0,10,1;").lost(0), 2);
        // A wire that heats at all melts behind ten minutes at the latest, and coils come by every four.
        is("OVER 1", Due.box("m60;w19;t0,20,1;").lost(0), 10);
        is("OVER 2, a slow one", Due.box("m60;s18;t0,20,1;").lost(0), 10);
        is("OVER 0", Due.box("m60;w20;t0,20,1;").lost(0), NONE);
        is("nothing ON", Due.box("m60;q1;t0,20,0;").lost(0), NONE);
        // Line 1 comes back behind 3 minutes; MAIN is out behind the one that follows.
        FuseBox x = Due.box("m10;w20;c5;t0,5,0;t1,6,1;");
        x.minutes(1);
        x.turn(0, 1);
        is("by the coil that comes back", x.lost(0), 4);
        is("nothing changes", x.count(3) * 10 + x.line(1, 2), 13);
    }

    private static void dark() {
        at("DARK: behind how many MINUTES (0 to 60) no THING RUNS first; NONE");
        is("nothing ON", Due.box("m60;w1;t0,20,0;").dark(), 0);
        is("DEAD now", after("m60;b1;t0,2,1;", 1).dark(), 0);
        is("MAIN out now", after("m1;w20;t0,2,1;", 1).dark(), 0);
        is("by MAIN", Due.box("m1;w20;t0,2,1;").dark(), 1);
        is("OVER 1", Due.box("m60;w19;t0,20,1;").dark(), 10);
        is("one of two", Due.box("m60;w19;b1;t0,20,1;t1,2,1;").dark(), 10);
        is("OVER 0", Due.box("m60;w20;t0,20,1;").dark(), NONE);
        is("one of six", Due.box("m60;b1;w1;t0,2,1;t0,2,1;t0,2,1;t0,2,1;t0,2,1;t1,1,1;").dark(), NONE);
    }

    private static void darkAtTheLongest() {
        at("DARK, as late as it can be");
        // The wire melts behind 10; coils are back behind 2, 6, 10; 3, 7, 11; 0, 4, 8, 12.
        FuseBox x = Due.box("m60;w1;c1;c1;c1;t0,2,0;t1,2,1;t2,2,0;t3,2,0;");
        x.minutes(1);
        x.turn(2, 1);
        x.minutes(1);
        x.turn(0, 1);
        x.turn(3, 1);
        is("dark()", x.dark(), 13);
        for (int d = 0; d < 13; d++) {
            DUE.holds("a THING RUNS, " + d, x.later(d, 1) != 0);
        }
        is("none RUNS", x.later(13, 1), 0);
        x = Due.box("m60;c1;c1;c1;c1;t0,2,1;t1,2,0;t2,2,0;t3,2,0;");
        for (int t = 1; t < 4; t++) {
            x.minutes(1);
            x.turn(t, 1);
        }
        is("four coils by turns", x.dark(), NONE);
    }

    private static void shed(FuseBox x, int thing, int n, int many, int which) {
        is("shed(" + thing + ", " + n + ", 0)", x.shed(thing, n, 0), many);
        is("shed(" + thing + ", " + n + ", 1)", x.shed(thing, n, 1), which);
    }

    private static void shedRuns() {
        at("SHED for a THING, n MINUTES (1 to 30): so that it RUNS now and behind each of them");
        FuseBox x = Due.box("m60;w5;t0,5,1;t0,1,1;");
        is("0", x.shed(0, 0, 0), BAD);
        shed(x, 0, 1, 0, 0);
        shed(x, 0, 9, 0, 0);
        shed(x, 0, 10, 1, 2);
        shed(x, 0, 30, 1, 2);
        shed(x, 1, 30, 1, 1);
        is("31", x.shed(0, 31, 0), BAD);
        shed(Due.box("m60;b5;t0,5,1;t0,1,1;"), 0, 1, 1, 2);
        // A coil's line is DEAD in between, though it is LIVE behind the last.
        shed(Due.box("m60;c5;t0,5,1;t0,1,1;"), 0, 4, 1, 2);
        shed(Due.box("m6;b5;b5;t0,5,1;t1,1,1;"), 0, 30, 0, 0);
        shed(Due.box("m5;b5;b5;t0,5,1;t1,1,1;"), 0, 1, 1, 2);
        is("nothing changes", x.count(8) + x.thing(1, 2), 1);
    }

    private static void shedFewest() {
        at("SHED: the fewest other THINGS: how many; which (bits; ON ones alone), of several the least");
        FuseBox x = Due.box(SIX_ON_ONE);
        for (int t = 0; t < 6; t++) {
            shed(x, t, 1, 5, 63 & ~(1 << t));
            shed(x, t, 30, 5, 63 & ~(1 << t));
        }
        x.turn(0, 0);
        shed(x, 5, 1, 4, 30);
        x = Due.box("m30;b20;b20;b20;b20;t0,10,1;t0,10,1;t1,10,1;t1,10,1;t2,10,1;t3,10,1;");
        shed(x, 0, 1, 3, 14);
        shed(x, 5, 1, 3, 7);
        shed(x, 1, 1, 3, 13);
        // One by itself is fewer than two whose bits are less.
        shed(Due.box("m9;w20;t0,5,1;t0,1,1;t0,1,1;t0,4,1;"), 0, 1, 1, 8);
        shed(Due.box("m60;b5;t0,5,1;"), 0, 30, 0, 0);
    }

    private static void shedNone() {
        at("SHED: NONE");
        shed(Due.box("m60;b5;t0,6,1;"), 0, 1, NONE, NONE);
        shed(Due.box("m5;b20;t0,6,1;t0,1,1;"), 0, 1, NONE, NONE);
        shed(Due.box("m60;b5;t0,1,0;t0,1,1;"), 0, 1, NONE, NONE);
        shed(after("m60;b1;t0,1,1;t0,1,1;", 1), 0, 1, NONE, NONE);
        shed(after("m60;c1;t0,1,1;t0,1,1;", 3), 0, 1, NONE, NONE);
        shed(after("m60;c1;t0,1,1;t0,1,1;", 4), 0, 1, 1, 2);
        shed(after("m1;b9;t0,1,1;t0,1,1;", 1), 0, 1, NONE, NONE);
    }

    private static void plugs(FuseBox x, int n, int most, int... lines) {
        is("plugs(" + n + ", -1)", x.plugs(n, -1), most);
        for (int t = 0; t < lines.length; t++) {
            is("plugs(" + n + ", " + t + ")", x.plugs(n, t), lines[t]);
        }
        is("one more THING", x.plugs(n, lines.length), BAD);
    }

    private static void plugsMinutes() {
        at("PLUGS for n MINUTES (1 to 12): by which most more is USED in them");
        FuseBox x = Due.box("m60;b20;t0,20,1;");
        is("0", x.plugs(0, -1), BAD);
        for (int n = 1; n <= 12; n++) {
            plugs(x, n, 20 * n, 0);
        }
        is("13", x.plugs(13, -1), BAD);
        is("thing -2", x.plugs(1, -2), BAD);
        plugs(Due.box(SIX_ON_ONE), 1, 120, 0, 0, 0, 0, 0, 0);
        plugs(Due.box(SIX_ON_ONE), 12, 120, 0, 0, 0, 0, 0, 0);
        x = Due.box("m60;w9;t0,10,1;");
        plugs(x, 10, 100, 0);
        plugs(x, 11, 100, 0);
        x = Due.box("m60;c9;t0,10,1;");
        plugs(x, 4, 10, 0);
        plugs(x, 5, 20, 0);
        plugs(x, 8, 20, 0);
        plugs(x, 9, 30, 0);
        plugs(x, 12, 30, 0);
        is("nothing changes", x.count(3) + x.count(7) + x.count(8), 0);
    }

    private static void plugsFirst() {
        at("PLUGS: of several the first (by LINES, THING by THING)");
        String lines = "m60;b20;b20;b20;b20;";
        FuseBox x = Due.box(lines + "t3,10,1;t3,10,1;t3,10,1;t3,10,1;t3,10,1;t3,10,1;");
        plugs(x, 1, 60, 0, 0, 0, 0, 0, 0);
        plugs(x, 2, 120, 0, 0, 1, 1, 2, 2);
        plugs(x, 12, 720, 0, 0, 1, 1, 2, 2);
        // 66 is above MAIN, so that one minute is all there is.
        x = Due.box(lines + "t3,11,1;t3,11,1;t3,11,1;t3,11,1;t3,11,1;t3,11,1;");
        plugs(x, 12, 66, 0, 0, 0, 0, 0, 0);
        x = Due.box(lines + "t3,20,1;t2,20,0;t1,20,1;t0,1,1;");
        plugs(x, 12, 492, 0, 2, 1, 2);
        x = Due.box("m60;b5;b20;t0,20,1;t0,5,1;");
        plugs(x, 12, 300, 1, 0);
        // 12 on line 0 melts it behind five minutes, just as long as this matters not.
        x = Due.box("m60;w10;w4;t1,8,1;t0,4,1;");
        plugs(x, 5, 60, 0, 0);
        plugs(x, 6, 72, 0, 1);
    }

    private static void plugsBehindMain() {
        at("PLUGS, FLOW of all LINES together just MAIN, and 1 above it");
        String lines = "m60;b20;b20;b20;b20;";
        plugs(Due.box(lines + "t0,20,1;t0,20,1;t0,20,1;"), 12, 720, 0, 1, 2);
        plugs(Due.box(lines + "t0,20,1;t0,20,1;t0,20,1;t0,1,1;"), 12, 61, 0, 0, 0, 0);
        plugs(Due.box("m1;b20;t0,1,1;"), 12, 12, 0);
        plugs(Due.box("m1;b20;t0,2,1;"), 12, 2, 0);
        // Line 1 is DEAD: what is plugged into it lets the others be just MAIN, or 1 above it.
        FuseBox x = after("m10;b20;b1;t1,6,1;t0,10,0;t0,1,0;", 1);
        x.turn(1, 1);
        plugs(x, 12, 120, 1, 0, 0);
        x.turn(2, 1);
        plugs(x, 12, 120, 1, 0, 1);
        // The wire melts behind three minutes; then what is left is just MAIN, or 1 above it: but MAIN is out by then.
        plugs(Due.box("m12;w1;b12;t0,4,1;t1,12,1;"), 12, 16, 0, 0);
    }

    private static void plugsOfNone() {
        at("PLUGS: the LINE of a THING (as it is, if it is off); where nothing is USED");
        plugs(Due.box("m60;w5;b5;t1,5,0;t0,5,0;"), 12, 0, 1, 0);
        plugs(after("m1;w5;b5;t1,5,1;t1,5,0;", 1), 12, 0, 0, 1);
        plugs(after("m60;b1;b1;t0,5,1;t1,5,1;", 1), 12, 0, 0, 0);
        // The coil is back behind the third minute.
        plugs(after("m60;b1;c6;t0,5,1;t1,7,1;t1,1,0;", 1), 3, 0, 0, 0, 1);
        plugs(after("m60;b1;c6;t0,5,1;t1,7,1;t1,1,0;", 1), 4, 12, 1, 1, 1);
    }

    private static void holdsLeast() {
        at("HOLDS: the least RATE (1 to 20) now by which it is LIVE behind each of them");
        for (String sort : "w s q b c".split(" ")) {
            is("nothing flows: 1", Due.box("m60;" + sort + "9;t0,1,0;").holds(0, 30), 1);
            is("1 flows: 1", Due.box("m60;" + sort + "9;t0,1,1;").holds(0, 30), 1);
            is("20 flow", Due.box("m60;" + sort + "9;t0,20,1;").holds(0, 30), sort.equals("s") ? 19 : 20);
        }
        is("20 flow, a breaker", Due.box("m60;b1;t0,20,1;").holds(0, 1), 20);
        is("21 flow, a breaker", Due.box("m60;b1;t0,20,1;t0,1,1;").holds(0, 1), NONE);
        is("20 flow, a coil", Due.box("m60;c1;t0,20,1;").holds(0, 1), 20);
        is("21 flow, a coil", Due.box("m60;c1;t0,20,1;t0,1,1;").holds(0, 1), NONE);
        is("twice 9 is 18, a quick one", Due.box("m60;q9;t0,18,1;").holds(0, 1), 10);
        is("twice 10 is 20, a quick one", Due.box("m60;q9;t0,20,1;").holds(0, 1), 11);
    }

    private static void holdsMinutes() {
        at("HOLDS for a LINE, n MINUTES (1 to 30)");
        FuseBox x = Due.box("m60;w1;t0,20,1;");
        is("0", x.holds(0, 0), BAD);
        int[] least = {11, 16, 17, 18, 19, 19, 19, 19, 19, 20};
        for (int n = 1; n <= 30; n++) {
            is("holds(0, " + n + ")", x.holds(0, n), least[Math.min(n, 10) - 1]);
        }
        is("31", x.holds(0, 31), BAD);
        x = Due.box("m60;w1;t0,20,1;t0,1,1;");
        is("by 20 nine minutes", x.holds(0, 9), 20);
        is("but not ten", x.holds(0, 10), NONE);
        is("nothing changes", x.line(0, 0), 1);
    }

    private static void holdsNone() {
        at("HOLDS: NONE");
        is("DEAD", after("m60;w1;t0,20,1;", 1).holds(0, 1), NONE);
        is("MAIN is out", after("m1;w9;t0,2,1;", 1).holds(0, 1), NONE);
        is("MAIN goes out", Due.box("m1;w9;t0,2,1;").holds(0, 1), NONE);
        is("a coil, 2 yet", after("m60;c1;t0,2,1;", 2).holds(0, 1), NONE);
        is("a coil, 1 yet: LIVE behind it", after("m60;c1;t0,2,1;", 3).holds(0, 1), 1);
        is("a coil, 1 yet, and it stays", after("m60;c1;t0,2,1;", 3).holds(0, 2), 2);
    }

    private static void faultyOnes() {
        at("FAULTY: THINGS (bits) that are ON, any one of which, turned off alone now, lets it be LIVE");
        is("none is ON", Due.box("m60;w1;t0,1,0;t0,1,0;").faulty(0, 1), 0);
        is("all six", Due.box("m60;w6;t0,1,1;t0,1,1;t0,1,1;t0,1,1;t0,1,1;t0,1,1;").faulty(0, 30), 63);
        is("all six, one is enough", Due.box("m60;b5;t0,1,1;t0,1,1;t0,1,1;t0,1,1;t0,1,1;t0,1,1;").faulty(0, 30), 63);
        is("none of six", Due.box("m60;b4;t0,1,1;t0,1,1;t0,1,1;t0,1,1;t0,1,1;t0,1,1;").faulty(0, 30), 0);
        is("either", Due.box("m60;b20;t0,20,1;t0,1,1;").faulty(0, 1), 3);
        is("one", Due.box("m60;b19;t0,20,1;t0,1,1;").faulty(0, 1), 1);
        is("ON ones alone", Due.box("m60;b20;t0,1,0;t0,20,1;t0,1,1;t0,3,0;").faulty(0, 1), 6);
        is("DEAD", after("m60;b1;t0,1,1;t0,1,1;", 1).faulty(0, 1), 0);
        is("MAIN is out", after("m1;b9;t0,1,1;t0,1,1;", 1).faulty(0, 1), 0);
        is("MAIN goes out, but for one", Due.box("m2;b9;b9;t0,1,1;t1,1,1;t1,1,1;").faulty(0, 30), 7);
    }

    private static void faultyMinutes() {
        at("FAULTY for a LINE, n MINUTES (1 to 30)");
        FuseBox x = Due.box("m60;w5;w5;t0,5,1;t0,1,1;t1,1,1;");
        is("0", x.faulty(0, 0), BAD);
        is("1", x.faulty(0, 1), 7);
        is("9", x.faulty(0, 9), 7);
        is("10", x.faulty(0, 10), 3);
        is("30", x.faulty(0, 30), 3);
        is("31", x.faulty(0, 31), BAD);
        is("a coil, 1 yet: LIVE behind it", after("m60;c1;t0,2,1;", 3).faulty(0, 2), 1);
        is("a coil, 2 yet", after("m60;c1;t0,2,1;", 2).faulty(0, 2), 0);
    }

    private static void bills(FuseBox x, int n, int... shares) {
        for (int t = 0; t < shares.length; t++) {
            is("bill(" + t + ", " + n + ")", x.bill(t, n), shares[t]);
        }
        is("all together", Arrays.stream(shares).sum(), n);
    }

    private static void billShares() {
        at("BILL of a THING, n in all (0 to 999): n times its LOAD, by LOAD of all that RUN (cut), what is over 1 each to the first of these");
        FuseBox x = Due.box(SIX_ON_ONE);
        is("-1", x.bill(0, -1), BAD);
        bills(x, 0, 0, 0, 0, 0, 0, 0);
        bills(x, 1, 1, 0, 0, 0, 0, 0);
        bills(x, 5, 1, 1, 1, 1, 1, 0);
        bills(x, 6, 1, 1, 1, 1, 1, 1);
        bills(x, 7, 2, 1, 1, 1, 1, 1);
        bills(x, 998, 167, 167, 166, 166, 166, 166);
        bills(x, 999, 167, 167, 167, 166, 166, 166);
        is("1000", x.bill(0, 1000), BAD);
        bills(Due.box("m60;b20;t0,20,1;"), 999, 999);
        bills(Due.box("m60;b20;t0,1,1;"), 1, 1);
        // 999 by 21: 47 and 951, 1 over; 1 by 21: none and none, 1 over.
        bills(Due.box("m60;b20;t0,1,1;t0,20,1;"), 999, 48, 951);
        bills(Due.box("m60;b20;t0,1,1;t0,20,1;"), 1, 1, 0);
        bills(Due.box("m60;b20;t0,1,1;t0,20,1;"), 21, 1, 20);
    }

    private static void billOfNone() {
        at("BILL: 0 of one that does not RUN");
        bills(Due.box("m60;b20;t0,20,0;t0,1,1;t0,20,0;t0,1,1;"), 3, 0, 2, 0, 1);
        bills(after("m60;b1;w20;t0,2,1;t1,3,1;", 1), 999, 0, 999);
        FuseBox x = after("m1;w20;t0,1,1;t0,1,1;", 1);
        is("MAIN is out", x.bill(0, 999) + x.bill(1, 999), 0);
        is("nothing is ON", Due.box("m60;b20;t0,20,0;").bill(0, 999), 0);
    }

    private static FuseBox told(FuseBox x, int... items) {
        x.row(0, 2, items.length);
        for (int i = 0; i < items.length; i++) {
            x.set(0, i, items[i]);
        }
        return x;
    }

    private static void fits(FuseBox x, int what, int want, int... items) {
        is("fits by " + Arrays.toString(items) + ", " + what, told(x, items).fits(0, 0, 0, items.length, what), want);
    }

    private static void fitsPlaces() {
        at("A row tells HEAT of a FUSE behind each of n MINUTES (1 to 12); n ITEMS of a ROW from i on");
        FuseBox x = Due.box("m60;w1;t0,2,1;");
        x.row(3, 1, 40);
        for (int i = 0; i < 12; i++) {
            x.set(3, i, i < 10 ? i + 1 : 19 - i);
            x.set(3, i + 28, i < 10 ? i + 1 : 19 - i);
        }
        is("0", x.fits(0, 3, 0, 0, 0), BAD);
        for (int n = 1; n <= 12; n++) {
            is("RATES, the first " + n, x.fits(0, 3, 0, n, 1), 2);
            is("RATES, " + n + " of the last twelve", x.fits(0, 3, 28, n, 1), 2);
        }
        is("13", x.fits(0, 3, 0, 13, 0), BAD);
        is("twelve from 29 on", x.fits(0, 3, 29, 12, 1), -1000012);
        is("the last alone", x.fits(0, 3, 39, 1, 1), 0);
        is("behind the last", x.fits(0, 3, 40, 1, 1), -1000012);
        x.set(3, 39, 7);
        is("the twelfth is wrong", x.fits(0, 3, 28, 12, 1), 0);
        is("eleven are not", x.fits(0, 3, 28, 11, 1), 2);
        x.set(3, 0, 0);
        is("the first is wrong", x.fits(0, 3, 0, 12, 1), 0);
        is("nothing changes", x.count(3) + x.line(0, 1) + x.count(8), 0);
    }

    private static FuseBox warm() {
        FuseBox x = after("m60;w6;t0,10,1;", 1);
        x.rate(0, 5);
        return x;
    }

    private static void fitsSorts() {
        at("SORTS: KINDS (bits 1 to 5) of it by which it is so");
        fits(warm(), 0, 1 << 1, 9, 14);
        fits(warm(), 0, 1 << 2, 6, 8);
        fits(warm(), 0, 1 << 3, 9, 8);
        fits(warm(), 0, 1 << 4, 4, 3, 2, 1, 0);
        fits(warm(), 0, 1 << 5, 4, 3, 2, 1, 1);
        fits(warm(), 0, 1 << 1 | 1 << 3, 9);
        fits(warm(), 0, 1 << 4 | 1 << 5, 4, 3, 2, 1);
        fits(warm(), 0, 0, 5);
        fits(Due.box("m60;w6;t0,6,1;"), 0, 62, 0, 0, 0, 0, 0, 0, 0, 0, 0, 0, 0, 0);
        fits(after("m1;w6;t0,2,1;", 1), 0, 62, 0, 0, 0);
        is("nothing changes", warm().kind(0), 1);
    }

    private static void fitsSortsOfDead() {
        at("SORTS (DEAD as it is; a coil for 3 MINUTES, if it is DEAD and was none)");
        // A slow one, DEAD with HEAT 10; by a coil it is LIVE behind 3, and its HEAT stays for one.
        FuseBox x = after("m60;s1;t0,20,1;t0,2,1;", 1);
        is("DEAD", x.line(0, 1) * 10 + x.line(0, 2), 101);
        fits(x, 0, 62, 9, 8, 7);
        fits(x, 0, 62 - 32, 9, 8, 7, 6);
        fits(x, 0, 32, 9, 8, 7, 7, 6, 5, 4, 4, 3, 2, 1, 1);
        is("DEAD as it is", x.line(0, 2), 1);
        // A breaker, DEAD: by a wire it is DEAD, too, so it does not heat.
        fits(after("m60;b1;t0,20,1;", 1), 0, 62, 0, 0, 0);
        fits(after("m60;c1;t0,20,1;", 1), 0, 62, 0, 0, 0, 0, 0);
        fits(after("m60;c1;t0,20,1;", 4), 0, 48, 0, 0);
    }

    private static void fitsRates() {
        at("RATES (1 to 20, bits)");
        fits(Due.box("m60;w9;t0,20,1;"), 1, 1 << 1, 19);
        fits(Due.box("m60;w9;t0,20,1;t0,1,1;"), 1, 1 << 20, 1);
        fits(Due.box("m60;w9;t0,20,1;t0,1,1;"), 1, 1 << 1, 20);
        fits(Due.box("m60;w9;t0,20,1;t0,1,1;"), 1, 0, 21);
        fits(Due.box("m60;w9;t0,20,1;t0,1,1;"), 1, 0, 0);
        fits(Due.box("m60;w9;t0,20,1;"), 1, 1 << 20, 0);
        fits(Due.box("m60;w9;t0,1,1;"), 1, (1 << 21) - 2, 0);
        fits(Due.box("m60;b9;t0,20,1;"), 1, (1 << 21) - 2, 0, 0);
        is("nothing changes", warm().line(0, 0), 5);
    }

    private static void fitsHeats() {
        at("HEATS (0 to 9, bits) of it now");
        for (int h = 0; h < 10; h++) {
            fits(Due.box("m60;b9;t0,1,1;"), 2, 1 << h, h);
        }
        fits(Due.box("m60;b9;t0,1,1;"), 2, 0, 10);
        fits(Due.box("m60;w9;t0,10,1;"), 2, 1 << 9, 10, 9);
        fits(Due.box("m60;w9;t0,10,1;"), 2, 1, 1, 2);
        fits(Due.box("m60;w9;t0,10,1;"), 2, 0, 11);
        fits(Due.box("m60;w9;t0,10,1;"), 2, 0, 0);
        fits(Due.box("m60;w9;t0,1,1;"), 2, 3, 0);
        fits(Due.box("m60;w9;t0,1,1;"), 2, 1 << 9, 8);
        fits(Due.box("m60;w9;t0,1,1;"), 2, 0, 9);
        fits(Due.box("m60;w9;t0,1,1;"), 2, 3, 0, 0, 0, 0, 0, 0, 0, 0, 0, 0, 0, 0);
    }

    private static void fitsMains() {
        at("MAINS (1 to 60): how many; the least; NONE");
        String sixty = "m30;w19;b20;b20;t0,20,1;t1,20,1;t2,20,1;";
        fits(Due.box(sixty), 3, 60, 1);
        fits(Due.box(sixty), 4, 1, 1);
        fits(Due.box(sixty), 3, 1, 1, 2);
        fits(Due.box(sixty), 4, 60, 1, 2);
        fits(Due.box(sixty), 3, 59, 1, 0);
        fits(Due.box(sixty), 4, 1, 1, 0);
        fits(Due.box(sixty + "t1,1,1;"), 3, 0, 1, 2);
        fits(Due.box(sixty + "t1,1,1;"), 4, NONE, 1, 2);
        fits(Due.box(sixty + "t1,1,1;"), 3, 60, 1, 0);
        fits(Due.box("m30;w1;t0,2,1;"), 3, 1, 1, 0);
        fits(Due.box("m30;w1;t0,2,1;"), 4, 1, 1, 0);
        fits(Due.box("m30;w1;t0,2,1;"), 3, 59, 1, 2);
        fits(Due.box("m30;w1;t0,2,1;"), 4, 2, 1, 2);
        fits(Due.box("m30;w1;t0,2,1;"), 3, 0, 2);
        fits(Due.box("m30;w1;t0,2,1;"), 4, NONE, 2);
        FuseBox out = after("m5;w4;t0,6,1;", 1);
        fits(out, 3, 60, 1, 0, 0);
        fits(out, 3, 0, 4);
        is("nothing changes", out.count(4), 5);
    }

    private static void fitsNoHeat() {
        at("SORTS, RATES, HEATS, MAINS by what no HEAT is");
        for (int item : new int[] {-1, 100, LEAST, LARGEST}) {
            int[] want = {0, 0, 0, 0, NONE};
            for (int what = 0; what < 5; what++) {
                fits(Due.box("m60;w1;t0,20,1;t0,20,1;t0,20,1;t0,20,1;t0,20,1;t0,20,1;"), what, want[what], item);
            }
        }
        fits(Due.box("m60;w9;t0,20,1;t0,20,1;t0,20,1;t0,20,1;t0,20,1;t0,20,1;"), 1, 0, 98);
        fits(Due.box("m60;w9;t0,20,1;t0,20,1;t0,20,1;t0,20,1;t0,20,1;t0,20,1;"), 1, (1 << 21) - 2, 99);
        FuseBox x = Due.box("m60;w9;t0,20,1;");
        x.row(0, 0, 1);
        is("a byte", x.set(0, 0, 256 + 11), 11);
        is("it fits as such", x.fits(0, 0, 0, 1, 1), 1 << 9);
    }

    private static void chance(FuseBox x, int n, int c, int above, int below) {
        is("chance(0, " + n + ", " + c + ", 0)", x.chance(0, n, c, 0), above);
        is("chance(0, " + n + ", " + c + ", 1)", x.chance(0, n, c, 1), below);
    }

    private static void chances() {
        at("CHANCE: each THING that is ON is off now by c of 10 (0 to 10): that a LINE is LIVE behind n MINUTES (0 to 60)");
        FuseBox x = Due.box("m60;b5;t0,6,1;");
        chance(x, 0, 0, 1, 1);
        chance(x, 0, 10, 1, 1);
        chance(x, 1, 0, 0, 1);
        chance(x, 1, 1, 1, 10);
        chance(x, 60, 1, 1, 10);
        chance(x, 60, 9, 9, 10);
        chance(x, 60, 10, 1, 1);
        is("n -1", x.chance(0, -1, 1, 0), BAD);
        is("n 61", x.chance(0, 61, 1, 0), BAD);
        is("c -1", x.chance(0, 1, -1, 0), BAD);
        is("c 11", x.chance(0, 1, 11, 0), BAD);
        FuseBox dead = after("m60;b5;t0,6,1;", 1);
        for (int c = 0; c <= 10; c++) {
            chance(dead, 0, c, 0, 1);
            chance(dead, 60, c, 0, 1);
            chance(Due.box("m60;b5;t0,6,0;"), 60, c, 1, 1);
            chance(after("m1;w5;t0,2,1;", 1), 60, c, 0, 1);
        }
        // Behind the last of them alone: the coil is DEAD behind 1, 2, 3, and LIVE behind 4; 60 is a fourth one.
        FuseBox coil = Due.box("m60;c5;t0,6,1;");
        int[] ns = {0, 1, 3, 4, 5, 56, 57, 59, 60};
        for (int n : ns) {
            chance(coil, n, 5, 1, n % 4 == 0 ? 1 : 2);
        }
        chance(Due.box("m60;w5;t0,6,1;"), 9, 5, 1, 1);
        chance(Due.box("m60;w5;t0,6,1;"), 10, 5, 1, 2);
        is("nothing changes", x.thing(0, 2), 1);
    }

    private static void chanceInLowestTerms() {
        at("fractions, told as two numbers in lowest terms (0 is 0 by 1)");
        FuseBox six = Due.box("m60;b5;t0,6,1;t0,6,1;t0,6,1;t0,6,1;t0,6,1;t0,6,1;");
        chance(six, 1, 0, 0, 1);
        chance(six, 1, 1, 1, 1000000);
        chance(six, 1, 2, 1, 15625);
        chance(six, 1, 3, 729, 1000000);
        chance(six, 1, 5, 1, 64);
        chance(six, 1, 9, 531441, 1000000);
        chance(six, 1, 10, 1, 1);
        // All but that none is off.
        FuseBox any = Due.box("m60;b5;t0,1,1;t0,1,1;t0,1,1;t0,1,1;t0,1,1;t0,1,1;");
        chance(any, 1, 1, 468559, 1000000);
        chance(any, 1, 5, 63, 64);
        chance(any, 1, 9, 999999, 1000000);
        // One that is off already is not thrown for.
        FuseBox x = Due.box("m60;b5;t0,6,1;t0,1,0;");
        chance(x, 1, 5, 1, 2);
        chance(x, 1, 4, 2, 5);
    }

    private static void daysOfNone() {
        at("DAYS of n MINUTES (0 to 60) by a SEED (1 to 999999)");
        FuseBox x = Due.box("m60;b5;b5;b5;c5;t0,6,1;t1,6,1;");
        is("-1", x.drawn(-1, 1, 0), BAD);
        is("none: USED", x.drawn(0, 1, 0) + x.drawn(0, 999999, 0), 0);
        is("none: LIVE", x.drawn(0, 1, 1) * 10 + x.drawn(0, 999999, 1), 44);
        is("seed 0", x.drawn(0, 0, 0), BAD);
        is("seed 1000000", x.drawn(0, 1000000, 0), BAD);
        is("61", x.drawn(61, 1, 0), BAD);
        x.minutes(1);
        is("none: LIVE", x.drawn(0, 1, 1), 2);
        is("MAIN out", after("m1;b9;t0,2,1;", 1).drawn(0, 1, 1), 0);
    }

    private static void daysUpToSixty() {
        at("DAYS: X becomes the rest of (X times 16807) by 2147483647, up to sixty times");
        String house = ";w5;s6;q4;c3;t0,8,1;t1,9,1;t2,5,1;t3,4,1;t0,2,0;t1,3,0;";
        // Worked out by another program.
        int[][] want = {{60, 1, 1, 26, 3}, {60, 1, 999999, 26, 3}, {60, 59, 1, 988, 4}, {60, 60, 1, 1014, 3}, {60, 59, 999999, 848, 2},
            {60, 60, 999999, 862, 2}, {60, 60, 500000, 620, 0}, {20, 1, 1, 26, 0}, {20, 60, 1, 390, 0}, {20, 60, 999999, 338, 0}, {20, 60, 500000, 372, 0}};
        for (int[] w : want) {
            FuseBox x = Due.box("m" + w[0] + house);
            is("drawn(" + w[1] + ", " + w[2] + ", 0)", x.drawn(w[1], w[2], 0), w[3]);
            is("drawn(" + w[1] + ", " + w[2] + ", 1)", x.drawn(w[1], w[2], 1), w[4]);
            is("nothing changes", x.count(3) + x.count(6) + x.count(7) + x.count(8) + x.line(0, 1), 0);
        }
    }

    private static void dayByDraw() {
        at("DAYS: turned, if X by 3 leaves 0; else, if X by 5 leaves 0, all that are DEAD are mended, and MAIN is put in; then the MINUTE");
        // From 15: 252105, by 3 and by 5; from 999997: 1774564050, by 3 and by 5, and by 6.
        FuseBox x = after("m60;b5;b9;t0,6,1;t1,4,1;t1,3,1;t1,2,0;", 1);
        is("line 0 is DEAD", x.count(6), 1);
        is("turned off, not mended", x.drawn(1, 15, 0), 4 + 3 - 4);
        is("one is LIVE", x.drawn(1, 15, 1), 1);
        // From 5: 84035, by 5 alone.
        is("mended", x.drawn(1, 5, 0), 13);
        is("DEAD behind it again", x.drawn(1, 5, 1), 1);
        x = after("m5;b9;t0,6,1;", 1);
        is("MAIN put in", x.drawn(1, 5, 0), 6);
        is("out behind it again", x.drawn(1, 5, 1), 0);
        x = Due.box("m60;w9;t0,6,0;t0,1,1;t0,1,1;t0,1,1;t0,1,1;t0,1,1;");
        is("thing 0 of six is turned on", x.drawn(1, 999997, 0), 11);
        // HEAT 9 and OVER 1: a line that was mended would hold on.
        is("what is not DEAD is not mended", after("m60;w5;t0,6,1;", 9).drawn(1, 5, 1), 0);
    }

    private static void images() {
        at("An IMAGE (0, 1) is kept of the HOUSE: 1");
        FuseBox x = Due.box("m60;w5;t0,8,1;");
        is("2", x.image(2), BAD);
        is("-1", x.image(-1), BAD);
        is("image(0)", x.image(0), 1);
        is("restore(1)", x.restore(1), STATE);
        x.minutes(1);
        is("image(1)", x.image(1), 1);
        x.minutes(1);
        is("restore(0)", x.restore(0), 1);
        is("MINUTE", x.count(3), 0);
        is("restore(1)", x.restore(1), 1);
        is("MINUTE", x.count(3), 1);
        x.minutes(1);
        is("in place of the one before", x.image(0), 1);
        is("restore(1)", x.restore(1), 1);
        is("restore(0)", x.restore(0), 1);
        is("MINUTE", x.count(3), 2);
        is("HEAT", x.line(0, 1), 6);
        x.minutes(24);
        is("what comes then is not in it", x.restore(0) + x.count(3), 3);
        is("no ACT", x.count(8), 0);
    }

    private static void restored() {
        at("The HOUSE is as an IMAGE kept it (no ACT can be undone then): 1");
        FuseBox x = Due.box("m60;w5;b4;c3;q2;t0,8,1;t1,5,1;t2,4,1;t3,3,0;t3,1,1;t0,2,0;");
        x.minutes(2);
        x.image(1);
        x.turn(3, 1);
        x.minutes(24);
        is("24 ACTS", x.count(8), 24);
        Due.feed(x, "m1;s1;t0,2,1;");
        x.house();
        x.minutes(1);
        is("out", x.count(5), 0);
        is("restore(1)", x.restore(1), 1);
        is("LINES, THINGS", x.count(1) * 10 + x.count(2), 46);
        is("MINUTE, MAIN, in", x.count(3) * 1000 + x.count(4) * 10 + x.count(5), 2601);
        is("DEAD", x.count(6), 6);
        is("MINUTES yet", x.line(2, 2), 2);
        is("USED", x.count(7), 27);
        is("no ACT", x.undo(), STATE);
        is("turn", x.turn(3, 1), 25);
        is("one ACT", x.undo(), 0);
        is("no more", x.undo(), STATE);
    }
}
