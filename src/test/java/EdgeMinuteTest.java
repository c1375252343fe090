import java.util.ArrayList;
import java.util.List;

/** The boundary cases of minutes and acts (section 2, promises 9 to 17), sentence by sentence. */
public final class EdgeMinuteTest {
    private static final int BAD = -1000001, STATE = -1000002, FULL = -1000003;

    private static final Due DUE = new Due();

    public static void main(String[] args) {
        live();
        flow();
        runs();
        wireHeats();
        wireHeatEnds();
        wireMelts();
        slowHeats();
        quickOnes();
        breakers();
        coils();
        notLiveCools();
        coilsWhileMainIsOut();
        mainGoesOut();
        mainStaysOut();
        usedAtTheLimit();
        byWhatThereIsAsItBegins();
        upToMinute9999();
        twentyFourMinutes();
        actsAreKept();
        undoneAndDoneAgain();
        eachActIsUndone();
        eachActIsForgotten();
        whatIsNoAct();
        turned();
        plugged();
        mended();
        mainsPutIn();
        rated();
        told();
        DUE.end();
    }

    private static void at(String sentence) {
        DUE.at(sentence);
    }

    private static void is(String call, long got, long want) {
        DUE.is(call, got, want);
    }

    /** A house of one line with this flow, of things that have 20 at most. */
    private static FuseBox one(String line, int flow) {
        StringBuilder text = new StringBuilder("m60;").append(line).append(';');
        for (int left = flow; left > 0; left -= 20) {
            text.append("t0,").append(Math.min(20, left)).append(",1;");
        }
        return Due.box(text + (flow == 0 ? "t0,1,0;" : ""));
    }

    private static void minute(String line, int flow, int heat, boolean dead) {
        FuseBox x = one(line, flow);
        x.minutes(1);
        is("HEAT of " + line + " with FLOW " + flow, x.line(0, 1), heat);
        is("DEAD of " + line + " with FLOW " + flow, x.count(6), dead ? 1 : 0);
    }

    private static void live() {
        at("A LINE is LIVE, if it is not DEAD, and MAIN is in");
        FuseBox x = Due.box("m9;w20;b1;t0,5,1;t1,2,0;t0,5,0;");
        is("both not DEAD, in", x.later(0, 0), 3);
        x.turn(1, 1);
        x.minutes(1);
        is("one DEAD, in", x.later(0, 0), 1);
        is("line(0, 3), line(1, 3)", x.line(0, 3) * 10 + x.line(1, 3), 10);
        x.turn(2, 1);
        x.minutes(1);
        is("out", x.later(0, 0), 0);
        is("one is DEAD yet", x.count(6), 2);
        is("line(0, 3), line(1, 3)", x.line(0, 3) * 10 + x.line(1, 3), 0);
    }

    private static void flow() {
        at("FLOW of a LINE is LOAD of all THINGS on it that are ON, together, if it is LIVE; else 0");
        FuseBox x = Due.box("m60;b20;w20;t0,20,1;t0,20,1;t0,20,1;t0,20,1;t0,20,1;t0,20,1;");
        is("all there can be", x.line(0, 4), 120);
        is("nothing is plugged", x.line(1, 4), 0);
        x.turn(5, 0);
        is("five", x.line(0, 4), 100);
        for (int t = 0; t < 5; t++) {
            x.turn(t, 0);
        }
        is("none is ON", x.line(0, 4), 0);
        x.turn(0, 1);
        x.turn(1, 1);
        x.minutes(1);
        is("DEAD", x.line(0, 4), 0);
        x = Due.box("m19;b20;t0,20,1;");
        x.minutes(1);
        is("MAIN out", x.line(0, 4), 0);
    }

    private static void runs() {
        at("A THING RUNS, if it is ON, and its LINE is LIVE");
        FuseBox x = Due.box("m60;w20;b1;t0,1,1;t0,1,0;t1,2,1;t1,2,0;");
        is("before", x.later(0, 1), 5);
        x.minutes(1);
        for (int t = 0; t < 4; t++) {
            is("thing(" + t + ", 3)", x.thing(t, 3), t == 0 ? 1 : 0);
        }
    }

    private static void wireHeats() {
        at("a wire's HEAT is more by OVER, if that is above 0, else 1 less");
        minute("w5", 6, 1, false);
        minute("w5", 5, 0, false);
        minute("w5", 4, 0, false);
        minute("w5", 0, 0, false);
        minute("w20", 21, 1, false);
        minute("w1", 2, 1, false);
        // From HEAT 4 on: OVER 1, 0, -1, and with nothing on it.
        int[] rates = {7, 8, 9, 20};
        int[] heats = {5, 3, 3, 3};
        for (int i = 0; i < 4; i++) {
            FuseBox x = Due.box("m60;w4;t0,8,1;");
            x.minutes(1);
            x.rate(0, rates[i]);
            x.minutes(1);
            is("HEAT by RATE " + rates[i], x.line(0, 1), heats[i]);
        }
    }

    private static void wireHeatEnds() {
        at("a wire's HEAT (0 to 99)");
        minute("w1", 99, 98, true);
        minute("w1", 100, 99, true);
        minute("w1", 101, 99, true);
        minute("w1", 120, 99, true);
        minute("q1", 100, 99, true);
        minute("q1", 101, 99, true);
        minute("s1", 120, 59, true);
        // From HEAT 9 on, by OVER 90 and 91.
        for (int last = 1; last <= 2; last++) {
            FuseBox x = Due.box("m60;w1;t0,10,1;t0,20,0;t0,20,0;t0,20,0;t0,20,0;t0," + last + ",0;");
            x.minutes(1);
            is("HEAT", x.line(0, 1), 9);
            for (int t = 1; t < 6; t++) {
                x.turn(t, 1);
            }
            is("9 and " + (89 + last), x.heat(0, 1), 99);
            x.turn(5, 0);
            is("9 and 89", x.heat(0, 1), 98);
        }
        FuseBox x = Due.box("m60;w1;t0,2,1;");
        x.minutes(1);
        x.turn(0, 0);
        is("1", x.line(0, 1), 1);
        is("0 behind it", x.heat(0, 1), 0);
        is("0 at least", x.heat(0, 2), 0);
    }

    private static void wireMelts() {
        at("with HEAT 10 or more then the LINE is DEAD");
        for (String sort : new String[] {"w1", "w5", "w20"}) {
            int rate = Integer.parseInt(sort.substring(1));
            minute(sort, rate + 9, 9, false);
            minute(sort, rate + 10, 10, true);
            minute(sort, rate + 11, 11, true);
        }
        FuseBox x = one("w5", 6);
        x.minutes(9);
        is("HEAT 9", x.line(0, 1) * 10 + x.line(0, 3), 91);
        x.minutes(1);
        is("HEAT 10", x.line(0, 1) * 10 + x.line(0, 3), 100);
        x.minutes(1);
        is("it is DEAD with HEAT 9, too, until it is mended", x.line(0, 1) * 10 + x.line(0, 3), 90);
        x.minutes(24);
        is("with HEAT 0, too", x.line(0, 1) * 10 + x.line(0, 3), 0);
        is("DEAD", x.line(0, 2), 1);
    }

    private static void slowHeats() {
        at("a slow one's as a wire's, but by half of OVER (cut)");
        int[] overs = {2, 3, 4, 5, 18, 19};
        int[] heats = {1, 1, 2, 2, 9, 9};
        for (int i = 0; i < overs.length; i++) {
            minute("s5", 5 + overs[i], heats[i], false);
        }
        minute("s5", 25, 10, true);
        minute("s5", 26, 10, true);
        minute("s5", 27, 11, true);
        minute("s5", 5, 0, false);
        minute("s5", 6, 0, false);
        // From HEAT 4 on: OVER 2, 1, 0, -1. OVER 1 is above 0, and half of it is 0.
        int[] rates = {11, 12, 13, 14};
        int[] then = {5, 4, 3, 3};
        for (int i = 0; i < 4; i++) {
            FuseBox x = Due.box("m60;s5;t0,13,1;");
            x.minutes(1);
            x.rate(0, rates[i]);
            x.minutes(1);
            is("HEAT by RATE " + rates[i], x.line(0, 1), then[i]);
        }
    }

    private static void quickOnes() {
        at("a quick one's as a wire's, and it is DEAD, too, if FLOW is twice RATE or more");
        minute("q5", 9, 4, false);
        minute("q5", 10, 5, true);
        minute("q5", 11, 6, true);
        minute("q1", 1, 0, false);
        minute("q1", 2, 1, true);
        minute("q1", 3, 2, true);
        minute("q1", 0, 0, false);
        minute("q9", 17, 8, false);
        minute("q9", 18, 9, true);
        minute("q20", 29, 9, false);
        minute("q20", 30, 10, true);
        minute("q20", 39, 19, true);
        minute("q20", 40, 20, true);
        FuseBox x = one("q5", 6);
        is("HEAT 9 behind nine", x.heat(0, 9), 9);
        is("10 behind ten", x.lost(0), 10);
    }

    private static void heatsThatFit(FuseBox x, int want, int... items) {
        x.row(0, 0, items.length);
        for (int i = 0; i < items.length; i++) {
            x.set(0, i, items[i]);
        }
        is("HEATS of " + java.util.Arrays.toString(items), x.fits(0, 0, 0, items.length, 2), want);
    }

    private static void breakers() {
        at("by a breaker the LINE is DEAD, if OVER is above 0 (HEAT stays)");
        minute("b5", 4, 0, false);
        minute("b5", 5, 0, false);
        minute("b5", 6, 0, true);
        minute("b1", 1, 0, false);
        minute("b1", 2, 0, true);
        minute("b20", 20, 0, false);
        minute("b20", 21, 0, true);
        minute("b1", 120, 0, true);
        for (String line : new String[] {"b5", "c5"}) {
            heatsThatFit(one(line, 5), 1 << 9, 9, 9, 9);
            heatsThatFit(one(line, 0), 1 << 1, 1, 1, 1);
            heatsThatFit(one(line, 0), 1, 0, 0, 0);
            // It stays in the minute by which it is DEAD, and is 1 less in each behind.
            heatsThatFit(one(line, 6), 1 << 9, 9, 8, 7, 6);
            heatsThatFit(one(line, 6), 1 << 1, 1, 0, 0, 0);
        }
        FuseBox x = one("b5", 6);
        x.minutes(24);
        is("for good", x.line(0, 2), 1);
    }

    private static void coils() {
        at("by a coil likewise, but for 3 MINUTES alone");
        minute("c5", 5, 0, false);
        minute("c5", 6, 0, true);
        minute("c1", 1, 0, false);
        minute("c1", 2, 0, true);
        minute("c20", 20, 0, false);
        minute("c20", 21, 0, true);
        FuseBox x = one("c5", 6);
        int[] yet = {0, 3, 2, 1, 0, 3, 2, 1, 0, 3};
        for (int i = 0; i < yet.length; i++) {
            is("MINUTES yet, " + i, x.line(0, 2), yet[i]);
            is("DEAD, " + i, x.count(6), yet[i] > 0 ? 1 : 0);
            x.minutes(1);
        }
        x = one("c5", 6);
        x.minutes(3);
        x.turn(0, 0);
        x.minutes(1);
        is("back", x.line(0, 3), 1);
        x.minutes(24);
        is("and it stays", x.line(0, 3), 1);
    }

    private static void notLiveCools() {
        at("HEAT of the FUSE of a LINE that is not LIVE (of any KIND) is 1 less (0 at least)");
        for (String sort : "w s q".split(" ")) {
            FuseBox x = one(sort + "1", 41);
            x.minutes(1);
            int hot = x.line(0, 1);
            is("hot", hot, sort.equals("s") ? 20 : 40);
            for (int d = 0; d <= 60; d++) {
                is("HEAT, DEAD, " + d, x.heat(0, d), Math.max(0, hot - d));
            }
        }
        for (String sort : "w s q b c".split(" ")) {
            // Line 1 puts MAIN out; line 0 is not DEAD.
            FuseBox x = Due.box("m19;" + sort + "9;b20;t0,9,1;t1,20,1;");
            x.minutes(1);
            is("none is DEAD", x.count(6), 0);
            is("none is LIVE", x.later(0, 0), 0);
            heatsThatFit(x, 1 << 9, 8, 7, 6, 5, 4, 3, 2, 1, 0, 0);
            heatsThatFit(x, 3, 0, 0);
        }
        FuseBox x = one("b5", 6);
        x.minutes(1);
        heatsThatFit(x, 1 << 3, 2, 1, 0, 0);
        x = one("c5", 6);
        x.minutes(1);
        // Three minutes it is 1 less, then it is LIVE for one, in which it stays.
        heatsThatFit(x, 1 << 9, 8, 7, 6, 6, 5);
    }

    private static void coilsWhileMainIsOut() {
        at("Of a coil's LINE that is DEAD (MAIN in or out) one of the MINUTES is over; behind the last one it is not DEAD any more");
        FuseBox x = Due.box("m9;c5;b20;t0,6,1;t1,9,1;");
        int[] yet = {0, 3, 2, 1, 0, 0, 0};
        for (int i = 0; i < yet.length; i++) {
            is("MAIN in, " + i, x.count(5), i == 0 ? 1 : 0);
            is("MINUTES yet, " + i, x.line(0, 2), yet[i]);
            is("LIVE, " + i, x.line(0, 3), i == 0 ? 1 : 0);
            x.minutes(1);
        }
        // In between MAIN is put in.
        x = Due.box("m9;c5;b20;t0,6,1;t1,9,1;");
        x.minutes(2);
        x.mains();
        is("2 yet", x.line(0, 2) * 10 + x.line(0, 3), 20);
        x.minutes(1);
        is("1 yet", x.line(0, 2) * 10 + x.line(0, 3), 10);
        x.minutes(1);
        is("not DEAD, LIVE", x.line(0, 2) * 10 + x.line(0, 3), 1);
    }

    private static void main(String text, int in) {
        FuseBox x = Due.box(text);
        x.minutes(1);
        is("MAIN in, behind a minute of " + text, x.count(5), in);
    }

    private static void mainGoesOut() {
        at("MAIN is out then, if FLOW of all LINES together is above MAIN");
        main("m1;w20;t0,1,1;", 1);
        main("m1;w20;t0,2,1;", 0);
        main("m1;w20;w20;t0,1,1;t1,1,1;", 0);
        main("m2;w20;w20;t0,1,1;t1,1,1;", 1);
        main("m60;w20;w20;w20;w20;t0,15,1;t1,15,1;t2,15,1;t3,15,1;", 1);
        main("m60;w20;w20;w20;w20;t0,15,1;t1,15,1;t2,15,1;t3,16,1;", 0);
        main("m59;w20;w20;w20;w20;t0,15,1;t1,15,1;t2,15,1;t3,15,1;", 0);
        main("m60;w20;w20;w20;w20;t0,15,1;t1,15,1;t2,15,1;t3,15,1;t3,20,0;", 1);
        main("m1;w20;t0,20,0;", 1);
        // Above MAIN even as the line is DEAD by the same minute: all by what there is as it begins.
        main("m5;b1;t0,6,1;", 0);
    }

    private static void mainStaysOut() {
        at("MAIN is out (until it is put in)");
        FuseBox x = Due.box("m1;w20;t0,2,1;");
        x.minutes(1);
        x.turn(0, 0);
        is("nothing is ON", x.minutes(24), 0);
        is("MAIN", x.count(5), 0);
        is("put in", x.mains(), 1);
        is("in", x.minutes(24), 1);
        x.turn(0, 1);
        is("out again", x.minutes(1), 0);
    }

    private static FuseBox nearlyAllUsed() {
        FuseBox x = Due.box("m60;b20;b20;b20;t0,20,1;t1,19,1;t1,1,1;t2,20,1;");
        for (int i = 0; i < 69; i++) {
            x.minutes(24);
        }
        x.minutes(10);
        return x;
    }

    private static void usedAtTheLimit() {
        at("USED is more by that FLOW (99999 at most)");
        FuseBox x = nearlyAllUsed();
        is("USED", x.count(7), 99960);
        x.turn(2, 0);
        x.turn(3, 0);
        is("39 more, foretold", x.later(1, 2), 99999);
        x.minutes(1);
        is("39 more", x.count(7), 99999);
        x.minutes(24);
        is("no more", x.count(7), 99999);
        x = nearlyAllUsed();
        x.turn(3, 0);
        x.minutes(1);
        is("40 more: cut", x.count(7), 99999);
        x.undo();
        is("undone", x.count(7), 99960);
        x.turn(0, 0);
        x.turn(1, 0);
        x.minutes(24);
        x.minutes(14);
        is("one by one", x.count(7), 99998);
        is("foretold", x.later(1, 2) - x.later(0, 2) + x.later(60, 2), 100000);
        x.minutes(1);
        is("99999", x.count(7), 99999);
        x.minutes(1);
        is("no more", x.count(7), 99999);
        x.undo();
        is("as it was", x.count(7), 99999);
        x.undo();
        is("as it was", x.count(7), 99998);
        is("nothing was USED by what is not LIVE", Due.box("m60;b20;t0,20,0;").later(60, 2), 0);
    }

    private static void byWhatThereIsAsItBegins() {
        at("A MINUTE, all by what there is as it begins");
        // MAIN goes out, and all the same the lines behind it heat up, melt and are counted in that minute.
        FuseBox x = Due.box("m3;w1;w1;b1;c1;t0,3,1;t1,20,1;t2,2,1;t3,2,1;");
        is("minutes(1)", x.minutes(1), 0);
        is("HEAT", x.line(0, 1), 2);
        is("DEAD", x.count(6), 14);
        is("MINUTES yet", x.line(3, 2), 3);
        is("USED", x.count(7), 27);
        is("MINUTE", x.count(3), 1);
    }

    private static FuseBox atMinute(int minute) {
        FuseBox x = one("w5", 5);
        for (int left = minute; left > 0; left -= 24) {
            x.minutes(Math.min(24, left));
        }
        return x;
    }

    private static void upToMinute9999() {
        at("minutes: FULL: beyond MINUTE 9999");
        FuseBox x = atMinute(9998);
        is("two", x.minutes(2), FULL);
        is("none of the two", x.count(3), 9998);
        is("one", x.minutes(1), 1);
        is("9999", x.count(3), 9999);
        is("one more", x.minutes(1), FULL);
        is("foretold beyond", x.later(60, 2), 9999 * 5 + 300);
        is("foretold beyond", x.drawn(60, 1, 1), 1);
        is("undone", x.undo(), 23);
        is("9998", x.count(3), 9998);
        is("one", x.minutes(1), 1);
        is("an act at 9999", x.rate(0, 6), 5);
        x.image(0);
        is("an image of 9999", x.restore(0), 1);
        is("FULL", x.minutes(1), FULL);
        Due.feed(x, "m9;w1;t0,1,1;");
        x.house();
        is("MINUTE 0 of another house", x.minutes(24), 1);
    }

    private static void twentyFourMinutes() {
        at("n MINUTES (1 to 24), an ACT each: LINES (bits) that are LIVE then");
        FuseBox x = one("w5", 6);
        is("0", x.minutes(0), BAD);
        is("25", x.minutes(25), BAD);
        is("1", x.minutes(1), 1);
        is("an ACT", x.count(8) * 100 + x.count(3), 101);
        is("24", x.minutes(24), 0);
        is("24 are kept", x.count(8) * 100 + x.count(3), 2425);
        is("one is undone", x.undo(), 23);
        is("one MINUTE", x.count(3), 24);
        is("all four", Due.box("m60;w1;s1;q1;b1;t0,1,1;").minutes(24), 15);
    }

    private static void actsAreKept() {
        at("ACTS (24 at most are kept, of more the oldest is forgotten; each can be undone, the latest first)");
        for (int acts : new int[] {0, 1, 2, 23, 24, 25, 26, 47, 48, 49, 50, 72, 73, 100}) {
            FuseBox x = one("w20", 1);
            for (int i = 1; i <= acts; i++) {
                x.rate(0, i % 19 + 1);
                is("ACTS", x.count(8), Math.min(24, i));
            }
            int kept = Math.min(24, acts);
            for (int i = 1; i <= kept; i++) {
                is("undo() " + i + " of " + acts, x.undo(), kept - i);
                is("RATE then", x.line(0, 0), acts == i ? 20 : (acts - i) % 19 + 1);
                is("ACTS then", x.count(8), kept - i);
            }
            is("no more", x.undo(), STATE);
            is("RATE as it was", x.line(0, 0), acts <= 24 ? 20 : (acts - 24) % 19 + 1);
        }
    }

    private static void undoneAndDoneAgain() {
        at("ACTS: undone, done, and forgotten by turns");
        FuseBox x = one("w20", 1);
        List<Integer> rates = new ArrayList<>();
        rates.add(20);
        int[] turns = {30, -10, 5, -24, 3, 24, -1, 1, 1, -24, 40, -23, 12, -20, 11, 1};
        int v = 0;
        for (int turn : turns) {
            for (int i = 0; i < turn; i++) {
                v = v % 20 + 1;
                x.rate(0, v);
                rates.add(v);
                if (rates.size() > 25) {
                    rates.remove(0);
                }
            }
            for (int i = 0; i > turn; i--) {
                is("undo()", x.undo(), rates.size() == 1 ? STATE : rates.size() - 2);
                if (rates.size() > 1) {
                    rates.remove(rates.size() - 1);
                }
            }
            is("RATE", x.line(0, 0), rates.get(rates.size() - 1));
            is("ACTS", x.count(8), rates.size() - 1);
        }
    }

    private interface Act {
        void on(FuseBox x);
    }

    private static final String[] NAMES = {"a MINUTE", "turned on", "turned off", "plugged", "mended", "a coil mended", "MAIN put in", "RATE"};
    private static final Act[] ACTS = {x -> x.minutes(1), x -> x.turn(2, 1), x -> x.turn(0, 0), x -> x.plug(0, 2), x -> x.mend(1),
        x -> x.mend(2), x -> x.mains(), x -> x.rate(0, 20)};

    /** Lines 1 and 2 are DEAD; MAIN is out, if told so. */
    private static FuseBox beforeActs(boolean out) {
        FuseBox x = Due.box("m" + (out ? 9 : 60) + ";w5;q4;c3;t0,7,1;t1,9,1;t2,2,0;t2,4,1;");
        x.minutes(2);
        Due.feed(x, "m9");
        return x;
    }

    private static void eachActIsUndone() {
        at("ACTS: each can be undone");
        for (int i = 0; i < ACTS.length; i++) {
            boolean out = i == 6;
            FuseBox x = beforeActs(out);
            ACTS[i].on(x);
            is(NAMES[i] + " is an ACT", x.count(8), 3);
            is("undo()", x.undo(), 2);
            DUE.holds("all is as it was before " + NAMES[i], Seen.of(x).equals(Seen.of(beforeActs(out))));
        }
        FuseBox x = beforeActs(false);
        for (int i = 0; i < ACTS.length; i++) {
            if (i != 6) {
                ACTS[i].on(x);
            }
        }
        is("seven more", x.count(8), 9);
        for (int i = 8; i >= 2; i--) {
            is("undo()", x.undo(), i);
        }
        DUE.holds("all is as it was before all", Seen.of(x).equals(Seen.of(beforeActs(false))));
    }

    private static List<String> forgotten(FuseBox x) {
        x.image(1);
        x.restore(1);
        return Seen.of(x);
    }

    private static void eachActIsForgotten() {
        at("ACTS: of more the oldest is forgotten");
        for (int i = 0; i < ACTS.length; i++) {
            boolean out = i == 6;
            FuseBox x = beforeActs(out);
            ACTS[i].on(x);
            int rate = x.line(1, 0);
            for (int k = 0; k < 24; k++) {
                x.rate(1, 20 - k % 2);
            }
            for (int k = 23; k >= 0; k--) {
                is("undo()", x.undo(), k);
            }
            is("no more", x.undo(), STATE);
            is("RATE", x.line(1, 0), rate);
            FuseBox y = beforeActs(out);
            ACTS[i].on(y);
            DUE.holds("what is forgotten stays: " + NAMES[i], forgotten(x).equals(forgotten(y)));
        }
    }

    private static void whatIsNoAct() {
        at("ACTS: nothing else is one");
        FuseBox x = beforeActs(false);
        x.row(0, 0, 4);
        x.set(0, 0, 1);
        x.copy(0, 0, 0, 1, 1);
        x.feed(1);
        x.house();
        x.heat(0, 60);
        x.later(60, 0);
        x.lost(0);
        x.dark();
        x.shed(0, 30, 0);
        x.plugs(12, 0);
        x.holds(0, 30);
        x.faulty(0, 30);
        x.bill(0, 999);
        for (int what = 0; what < 5; what++) {
            x.fits(0, 0, 0, 4, what);
        }
        x.chance(0, 60, 5, 0);
        x.drawn(60, 3, 0);
        x.image(0);
        x.as(0, 0);
        x.ask(0, 0);
        x.drop(0);
        x.turn(0, 1);
        x.plug(0, 0);
        x.mend(0);
        x.mains();
        x.minutes(0);
        is("ACTS", x.count(8), 2);
        is("undo()", x.undo(), 1);
        is("MINUTE", x.count(3), 1);
    }

    private static void turned() {
        at("A THING is turned on (1), off (0): THINGS (bits) that RUN then");
        FuseBox x = Due.box("m60;w20;b20;t0,1,0;t0,1,0;t0,1,0;t1,1,0;t1,1,0;t1,1,0;");
        int bits = 0;
        for (int t = 0; t < 6; t++) {
            bits |= 1 << t;
            is("on", x.turn(t, 1), bits);
            is("it is so", x.turn(t, 1), STATE);
        }
        for (int t = 0; t < 6; t++) {
            bits &= ~(1 << t);
            is("off", x.turn(t, 0), bits);
            is("it is so", x.turn(t, 0), STATE);
        }
        x = Due.box("m1;w20;t0,2,1;t0,1,0;");
        x.minutes(1);
        is("on, MAIN out", x.turn(1, 1), 0);
        is("off, MAIN out", x.turn(0, 0), 0);
        is("put in", x.mains(), 1);
        is("RUN", x.later(0, 1), 2);
    }

    private static void plugged() {
        at("A THING is plugged into a LINE: in which it was");
        FuseBox x = Due.box("m60;w20;s20;b1;c20;t0,1,1;t2,2,1;t1,1,0;");
        x.minutes(1);
        is("line 2 is DEAD", x.count(6), 4);
        is("into the last", x.plug(0, 3), 0);
        is("into the one that is DEAD", x.plug(0, 2), 3);
        is("it does not RUN", x.thing(0, 3), 0);
        is("out of it", x.plug(1, 0), 2);
        is("it RUNS", x.thing(1, 3), 1);
        is("one that is off", x.plug(2, 0), 1);
        is("there, too", x.line(0, 5), 6);
        is("it is there", x.plug(2, 0), STATE);
        is("one more than there are", x.plug(2, 4), BAD);
    }

    private static void mended() {
        at("A LINE is mended (not DEAD, HEAT 0): LINES (bits) that are DEAD then");
        FuseBox x = Due.box("m60;w1;q1;b1;c1;t0,20,1;t1,20,1;t2,2,1;t3,2,1;");
        is("all are DEAD", x.minutes(1) * 100 + x.count(6), 15);
        is("mend(3)", x.mend(3), 7);
        is("mend(0)", x.mend(0), 6);
        is("HEAT", x.line(0, 1) + x.line(0, 2), 0);
        is("of the others stays", x.line(1, 1), 19);
        is("mend(0) again", x.mend(0), STATE);
        is("mend(1)", x.mend(1), 4);
        is("mend(2)", x.mend(2), 0);
        x = Due.box("m5;w1;c1;t0,20,1;t1,2,1;");
        x.minutes(1);
        is("MAIN is out: mended all the same", x.mend(0), 2);
        is("not LIVE yet", x.line(0, 3), 0);
        is("the coil", x.mend(1), 0);
        is("MAIN", x.mains(), 3);
    }

    private static void mainsPutIn() {
        at("MAIN is put in: LINES (bits) that are LIVE then; STATE: no HOUSE, it is in");
        is("no HOUSE", new FuseBox().mains(), STATE);
        FuseBox x = Due.box("m1;w1;b1;t0,20,1;t1,2,1;");
        is("it is in", x.mains(), STATE);
        x.minutes(1);
        is("all are DEAD", x.mains(), 0);
        is("it is in", x.mains(), STATE);
        x = Due.box("m1;w9;b9;s9;c9;t0,2,1;");
        x.minutes(1);
        is("none is DEAD", x.mains(), 15);
        x.minutes(1);
        is("again", x.mains(), 15);
    }

    private static void rated() {
        at("RATE of a LINE is v (1 to 20): what it was");
        FuseBox x = one("b7", 8);
        is("0", x.rate(0, 0), BAD);
        is("21", x.rate(0, 21), BAD);
        is("1", x.rate(0, 1), 7);
        is("20", x.rate(0, 20), 1);
        is("8", x.rate(0, 8), 20);
        is("not OVER", x.minutes(1), 1);
        is("7", x.rate(0, 7), 8);
        is("LIVE until the MINUTE is over", x.line(0, 3), 1);
        is("OVER", x.minutes(1), 0);
        is("of one that is DEAD", x.rate(0, 9), 7);
        is("DEAD yet", x.line(0, 2), 1);
    }

    private static void told() {
        at("Of a LINE: 0 .. 5; of a THING: 0 .. 3; at the ends of what there is");
        FuseBox x = Due.box("m60;w1;w20;w1;w1;t1,1,0;t1,20,0;t1,1,0;t1,1,0;t1,1,0;t1,1,0;");
        is("RATE, the least", x.line(0, 0), 1);
        is("RATE, the most", x.line(1, 0), 20);
        is("all THINGS", x.line(1, 5), 63);
        is("none", x.line(0, 5), 0);
        is("LOAD, the least", x.thing(0, 1), 1);
        is("LOAD, the most", x.thing(1, 1), 20);
        x.plug(5, 3);
        is("the last in the last", x.line(3, 5), 32);
        is("LINE", x.thing(5, 0), 3);
        is("the others", x.line(1, 5), 31);
        is("what 6", x.line(1, 6), BAD);
        is("what 4", x.thing(1, 4), BAD);
    }
}
