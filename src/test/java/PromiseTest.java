/** For each promise of the document answers that were worked out by hand: ordinary ones, edges, wrong inputs. */
public final class PromiseTest {
    private static final int NONE = -1000000, BAD = -1000001, STATE = -1000002, FULL = -1000003;
    private static final int NULL = -1000011, PLACE = -1000012, KIND = -1000013, SIZE = -1000014, STORE = -1000015;

    private static final Due DUE = new Due();

    public static void main(String[] args) {
        promise1();
        promise2();
        promise3();
        promise4();
        promise5();
        promise6();
        promise7();
        promise8();
        promise9();
        minuteOfWires();
        minuteOfSlowAndQuickOnes();
        minuteOfBreakersAndCoils();
        minuteOfMain();
        promise10();
        promise11();
        promise12();
        promise13();
        promise14();
        promise15();
        promise16();
        promise17();
        promise18();
        promise19();
        promise20();
        promise21();
        promise22();
        promise23();
        plugsAtTheLimit();
        promise24();
        promise25();
        promise26();
        promise27();
        sortsOfDeadLines();
        promise28();
        promise29();
        drawnAtTheLimit();
        promise30();
        promise31();
        promise32();
        promise33();
        promise34and35();
        promise36();
        promise37();
        DUE.end();
    }

    private static void is(String call, long got, long want) {
        DUE.is(call, got, want);
    }

    private static void at(String where) {
        DUE.at(where);
    }

    private static void promise1() {
        at("promise 1");
        FuseBox x = new FuseBox();
        for (int what = 0; what < 10; what++) {
            is("count(" + what + ")", x.count(what), 0);
        }
        is("status()", x.status(), 0);
        is("fault()", x.fault(), 0);
        is("trace(0)", x.trace(0), NONE);
        is("NONE", FuseBox.NONE, NONE);
        is("BAD", FuseBox.BAD, BAD);
        is("STATE", FuseBox.STATE, STATE);
        is("FULL", FuseBox.FULL, FULL);
        is("kind(0)", x.kind(0), BAD);
    }

    private static void promise2() {
        at("promise 2");
        FuseBox x = new FuseBox();
        is("row of none", x.row(0, 0, 0), 0);
        is("row of forty", x.row(7, 2, 40), 40);
        is("count(0)", x.count(0), 2);
        is("below the rows", x.row(-1, 0, 1), BAD);
        is("above the rows", x.row(8, 0, 1), BAD);
        is("below the lanes", x.row(1, -1, 1), BAD);
        is("above the lanes", x.row(1, 3, 1), BAD);
        is("n above 40", x.row(1, 1, 41), BAD);
        is("n far above 40", x.row(1, 1, Integer.MAX_VALUE), BAD);
        is("BAD ahead of SIZE", x.row(1, 3, -1), BAD);
        is("BAD ahead of SIZE", x.row(8, 0, -1), BAD);
        is("SIZE", x.row(7, 0, -1), SIZE);
        is("SIZE", x.row(7, 0, Integer.MIN_VALUE), SIZE);
        is("status()", x.status(), 4);
        is("what is found changes nothing", x.set(7, 39, 100000), 100000);
        is("in place of what is there", x.row(7, 0, 3), 3);
        is("count(0)", x.count(0), 2);
        is("drop(7)", x.drop(7), 3);
        FuseBox y = Due.box("m60;b5;t0,1,1;");
        y.row(0, 2, 4);
        y.set(0, 0, 9);
        y.set(0, 3, 9);
        y.row(0, 2, 4);
        is("items are 0 anew", y.fits(0, 0, 0, 4, 3), 60);
    }

    private static void promise3() {
        at("promise 3");
        FuseBox x = new FuseBox();
        is("NULL", x.set(0, 0, 1), NULL);
        is("NULL ahead of PLACE", x.set(0, -1, 1), NULL);
        is("BAD", x.set(-1, 0, 1), BAD);
        is("BAD", x.set(8, 0, 1), BAD);
        x.row(0, 0, 4);
        x.row(1, 1, 4);
        x.row(2, 2, 4);
        is("byte", x.set(0, 0, 127), 127);
        is("byte", x.set(0, 0, 128), -128);
        is("byte", x.set(0, 3, -129), 127);
        is("byte", x.set(0, 3, 256), 0);
        is("short", x.set(1, 0, 32767), 32767);
        is("short", x.set(1, 0, 32768), -32768);
        is("short", x.set(1, 3, 65536 + 5), 5);
        is("int", x.set(2, 0, Integer.MIN_VALUE), Integer.MIN_VALUE);
        is("status()", x.status(), 0);
        is("PLACE", x.set(2, 4, 0), PLACE);
        is("PLACE", x.set(2, -1, 0), PLACE);
        is("PLACE", x.set(2, Integer.MAX_VALUE, 0), PLACE);
        is("status()", x.status(), 2);
        x.row(3, 0, 0);
        is("PLACE of an empty row", x.set(3, 0, 0), PLACE);
    }

    private static void promise4() {
        at("promise 4");
        // Heat behind the minutes: 3, 6, 9, 12 (dead), 11.
        FuseBox x = Due.box("m60;w5;t0,8,1;");
        x.row(0, 0, 5);
        int[] items = {3, 6, 9, 12, 0};
        for (int i = 0; i < 5; i++) {
            x.set(0, i, items[i]);
        }
        is("onto itself, to the right", x.copy(0, 0, 0, 1, 4), 4);
        is("as they were ahead", x.fits(0, 0, 1, 4, 2), 1);
        is("onto itself, to the left", x.copy(0, 1, 0, 0, 4), 4);
        is("as they were ahead", x.fits(0, 0, 0, 4, 2), 1);
        x.row(1, 0, 4);
        is("into another", x.copy(0, 0, 1, 0, 4), 4);
        is("there", x.fits(0, 1, 0, 4, 2), 1);
        is("none", x.copy(0, 5, 1, 4, 0), 0);
        is("none beyond an end", x.copy(0, 6, 1, 0, 0), PLACE);
        is("none beyond an end", x.copy(0, 0, 1, 5, 0), PLACE);
        is("i below 0", x.copy(0, -1, 1, 0, 1), PLACE);
        is("j below 0", x.copy(0, 0, 1, -1, 1), PLACE);
        is("n below 0", x.copy(0, 0, 1, 0, -1), PLACE);
        is("status()", x.status(), 2);
        is("beyond the end of a", x.copy(0, 2, 1, 0, 4), PLACE);
        is("beyond the end of b", x.copy(0, 0, 1, 1, 4), PLACE);
        is("far beyond", x.copy(0, 1, 1, 0, Integer.MAX_VALUE), PLACE);
        is("far beyond", x.copy(0, Integer.MAX_VALUE, 1, 0, 1), PLACE);
        x.row(2, 1, 4);
        is("STORE ahead of PLACE", x.copy(0, -1, 2, 0, 1), STORE);
        is("status()", x.status(), 5);
        is("NULL ahead of STORE", x.copy(0, 0, 3, 0, 1), NULL);
        is("NULL", x.copy(3, 0, 0, 0, 1), NULL);
        is("BAD ahead of NULL", x.copy(3, 0, 8, 0, 1), BAD);
        is("BAD", x.copy(-1, 0, 0, 0, 1), BAD);
    }

    private static void promise5() {
        at("promise 5");
        FuseBox x = new FuseBox();
        x.row(3, 1, 12);
        is("drop(3)", x.drop(3), 12);
        is("count(0)", x.count(0), 0);
        is("missing then", x.drop(3), NULL);
        is("status()", x.status(), 1);
        is("BAD", x.drop(8), BAD);
        is("BAD", x.drop(-1), BAD);
        x.row(3, 1, 0);
        is("one without items is there", x.count(0), 1);
        is("drop(3)", x.drop(3), 0);
    }

    private static void promise6() {
        at("promise 6");
        FuseBox x = new FuseBox();
        is("BAD", x.feed(-1), BAD);
        is("BAD", x.feed(256), BAD);
        is("least", x.feed(0), 1);
        is("most", x.feed(255), 2);
        for (int i = 3; i <= 90; i++) {
            is("feed(97)", x.feed(97), i);
        }
        is("FULL", x.feed(97), FULL);
        is("BAD ahead of FULL", x.feed(256), BAD);
        is("count(9)", x.count(9), 90);
        is("no token at all", x.house(), -1000100);
        is("count(9)", x.count(9), 0);
        is("room again", x.feed(97), 1);
    }

    private static void read(String text, int answer, int fault) {
        FuseBox x = new FuseBox();
        Due.feed(x, text);
        is("house() of " + text, x.house(), answer);
        is("fault() of " + text, x.fault(), fault);
        is("count(9) behind " + text, x.count(9), 0);
        is("count(1) behind " + text, x.count(1), fault == 0 ? answer : 0);
    }

    private static void fault(String text, int place, int fault) {
        read(text, -1000100 - place, fault);
    }

    private static void promise7() {
        at("promise 7");
        read("m1;w1;t0,1,0;", 1, 0);
        read("m60;w20;s20;q20;b20;t3,20,1;", 4, 0);
        read("m01;c09;t00,07,01;", 1, 0);
        read("m9;w1;t0,1,1;t0,1,1;t0,1,1;t0,1,1;t0,1,1;t0,1,1;", 1, 0);
        String[] parts = {"m", "9", ";", "w", "8", ";", "t", "0", ",", "7", ",", "1", ";"};
        StringBuilder text = new StringBuilder();
        for (String part : parts) {
            fault(text.toString(), text.length(), 1);
            fault(text + "x", text.length(), 1);
            fault(text + " ", text.length(), 1);
            fault(text + "M", text.length(), 1);
            // Behind a number figures would only make it longer.
            int run = text.toString().matches(".*[0-9]") ? text.length() - 1 : text.length();
            fault(text + "123", run, 1);
            fault(text + "1234", run, 1);
            text.append(part);
        }
        read(text.toString(), 1, 0);
        fault(text + "w", 13, 1);
        fault(text + "1", 13, 1);
        fault(text + ";", 13, 1);
        fault(text + "m", 13, 1);
        fault("m0;", 1, 2);
        fault("m61;", 1, 2);
        fault("m9;w0;", 4, 2);
        fault("m9;w21;", 4, 2);
        fault("m9;w1;s1;t2,", 10, 2);
        fault("m9;w1;t0,0,", 9, 2);
        fault("m9;w1;t0,21,", 9, 2);
        fault("m9;w1;t0,1,2;", 11, 2);
        fault("m9;w1;w1;w1;w1;w1;", 15, 3);
        fault("m9;w1;w1;w1;w1;c", 15, 3);
        fault("m9;w1;w1;w1;w1;m", 15, 1);
        fault("m9;w1;t0,1,1;t0,1,1;t0,1,1;t0,1,1;t0,1,1;t0,1,1;t0,1,1;", 48, 3);
        fault("m9;w1;w1;w1;w1;t0,1,1;w", 22, 1);
        fault("m9;t", 3, 1);
        fault("m9;w1;t0;", 8, 1);
        fault("m9;w1;t,", 7, 1);
        houseInPlaceOfAnother();
    }

    private static void houseInPlaceOfAnother() {
        FuseBox x = Due.box("m9;w5;b1;t0,8,1;t1,2,1;");
        x.minutes(2);
        is("MAIN is out", x.count(5), 0);
        is("what is foretold leaves nothing behind", x.heat(0, 1), 1);
        Due.feed(x, "m8;w5;t0,8,");
        is("a fault", x.house(), -1000111);
        is("all stays: LINES", x.count(1), 2);
        is("all stays: MINUTE", x.count(3), 2);
        is("all stays: ACTS", x.count(8), 2);
        is("LINES that are DEAD", x.count(6), 2);
        is("foretold once more", x.later(1, 2), 10);
        Due.feed(x, "m8;s6;c1;t0,7,0;");
        is("another house", x.house(), 2);
        int[] counts = {0, 2, 1, 0, 8, 1, 0, 0, 0, 0};
        for (int what = 0; what < 10; what++) {
            is("count(" + what + ")", x.count(what), counts[what]);
        }
        is("no act can be undone", x.undo(), STATE);
        is("HEAT", x.line(0, 1), 0);
        is("not DEAD", x.line(1, 2), 0);
        is("off", x.thing(0, 2), 0);
        is("the thing that was", x.thing(1, 0), BAD);
    }

    private static void promise8() {
        at("promise 8");
        FuseBox x = new FuseBox();
        is("before one", x.fault(), 0);
        Due.feed(x, "m0");
        x.house();
        is("fault()", x.fault(), 2);
        Due.feed(x, "m1;w1;t0,1,0;");
        is("house()", x.house(), 1);
        is("the latest stays", x.fault(), 2);
        x.house();
        is("fault()", x.fault(), 1);
    }

    private static void promise9() {
        at("promise 9");
        FuseBox x = new FuseBox();
        is("STATE", x.minutes(1), STATE);
        is("STATE ahead of BAD", x.minutes(0), STATE);
        x = Due.box("m60;w5;w5;t0,8,1;");
        is("BAD", x.minutes(0), BAD);
        is("BAD", x.minutes(25), BAD);
        is("BAD", x.minutes(-1), BAD);
        is("three", x.minutes(3), 3);
        is("an ACT each", x.count(8), 3);
        is("the fourth", x.minutes(1), 2);
        is("MINUTE", x.count(3), 4);
        is("USED", x.count(7), 32);
        x = Due.box("m60;w5;t0,5,1;");
        for (int i = 0; i < 416; i++) {
            x.minutes(24);
        }
        is("MINUTE", x.count(3), 9984);
        is("FULL", x.minutes(16), FULL);
        is("BAD ahead of FULL", x.minutes(25), BAD);
        is("up to 9999", x.minutes(15), 1);
        is("MINUTE", x.count(3), 9999);
        is("FULL", x.minutes(1), FULL);
        is("foretold beyond it", x.later(60, 2), 9999 * 5 + 300);
    }

    private static void minuteOfWires() {
        at("a minute, wires");
        FuseBox x = Due.box("m60;w5;t0,8,1;t0,1,0;");
        int[] heats = {0, 3, 6, 9, 12, 11, 10, 9};
        for (int d = 0; d < heats.length; d++) {
            is("heat(0, " + d + ")", x.heat(0, d), heats[d]);
        }
        x.minutes(2);
        x.turn(0, 0);
        x.minutes(2);
        is("1 less each", x.line(0, 1), 4);
        x.minutes(9);
        is("0 at least", x.line(0, 1), 0);
        x = Due.box("m60;w1;t0,11,1;");
        is("10 is enough", x.minutes(1), 0);
        x = Due.box("m60;w1;t0,10,1;");
        is("9 is not", x.minutes(1), 1);
        x = Due.box("m60;w5;t0,5,1;");
        is("OVER 0", x.heat(0, 60), 0);
        x = Due.box("m60;w1;t0,20,1;t0,20,1;t0,20,1;t0,20,1;t0,20,1;t0,20,1;");
        x.minutes(1);
        is("99 at most", x.line(0, 1), 99);
        is("USED", x.count(7), 120);
        x.minutes(4);
        is("1 less, as it is dead", x.line(0, 1), 95);
    }

    private static void minuteOfSlowAndQuickOnes() {
        at("a minute, slow and quick ones");
        FuseBox x = Due.box("m60;s5;t0,10,1;");
        int[] slow = {0, 2, 4, 6, 8, 10, 9, 8};
        for (int d = 0; d < slow.length; d++) {
            is("heat(0, " + d + ")", x.heat(0, d), slow[d]);
        }
        is("lost(0)", x.lost(0), 5);
        x = Due.box("m60;s5;t0,8,1;");
        x.minutes(3);
        is("half of 3, cut", x.line(0, 1), 3);
        x.rate(0, 7);
        x.minutes(3);
        is("half of 1, cut: OVER is above 0, so it is more by 0", x.line(0, 1), 3);
        x.rate(0, 8);
        x.minutes(2);
        is("1 less each", x.line(0, 1), 1);
        x = Due.box("m60;q5;q5;t0,10,1;t1,9,1;");
        is("twice RATE", x.lost(0), 1);
        is("heat by OVER", x.heat(0, 1), 5);
        is("cools as it is dead", x.heat(0, 2), 4);
        is("less than twice RATE", x.lost(1), 3);
        is("heat by OVER", x.heat(1, 3), 12);
        x = Due.box("m60;q1;t0,1,1;t0,1,0;");
        x.turn(1, 1);
        is("twice a RATE of 1", x.minutes(1), 0);
        is("HEAT", x.line(0, 1), 1);
    }

    private static void minuteOfBreakersAndCoils() {
        at("a minute, breakers and coils");
        FuseBox x = Due.box("m60;b5;c5;t0,5,1;t1,5,1;t0,1,0;t1,1,0;");
        is("OVER 0", x.minutes(24), 3);
        x.turn(2, 1);
        x.turn(3, 1);
        int[] dead = {0, 3, 2, 1, 0, 3, 2, 1, 0};
        for (int d = 0; d < dead.length; d++) {
            is("of the coil, " + d, x.line(1, 2), dead[d]);
            is("of the breaker, " + d, x.line(0, 2), d == 0 ? 0 : 1);
            is("LIVE, " + d, x.line(1, 3), dead[d] == 0 ? 1 : 0);
            is("HEAT, " + d, x.line(1, 1) + x.line(0, 1), 0);
            x.minutes(1);
        }
        // Of a coil's line the minutes go on while main is out; line 1 puts main out with it.
        x = Due.box("m9;c5;b20;t0,6,1;t1,6,1;");
        is("MAIN out", x.minutes(1), 0);
        is("3 yet", x.line(0, 2), 3);
        x.minutes(3);
        is("not DEAD", x.line(0, 2), 0);
        is("not LIVE", x.line(0, 3), 0);
        x.minutes(5);
        is("stays so", x.line(0, 2), 0);
        is("MAIN in", x.mains(), 3);
    }

    private static void minuteOfMain() {
        at("a minute, main");
        FuseBox x = Due.box("m10;w20;w3;t0,5,1;t1,5,1;t0,1,0;");
        is("10 is not above 10", x.minutes(1), 3);
        is("HEAT", x.line(1, 1), 2);
        x.turn(2, 1);
        is("11 is", x.minutes(1), 0);
        is("the minute itself heats", x.line(1, 1), 4);
        is("none is DEAD", x.count(6), 0);
        is("MAIN is out", x.count(5), 0);
        is("USED", x.count(7), 21);
        x.minutes(3);
        is("not LIVE: 1 less each", x.line(1, 1), 1);
        is("USED", x.count(7), 21);
        is("put in", x.mains(), 3);
        // A line that is dead has no flow, so main stays in.
        x = Due.box("m10;b5;w9;t0,6,1;t1,9,1;");
        x.rate(0, 6);
        x.minutes(1);
        is("15 is above 10", x.count(5), 0);
        x = Due.box("m10;b5;w9;t0,6,1;t1,4,1;t1,5,0;");
        x.minutes(1);
        x.turn(2, 1);
        is("9 is not", x.minutes(20), 2);
        // Heat of the last minute and main at once.
        x = Due.box("m19;w9;t0,20,1;");
        is("both", x.minutes(1), 0);
        is("DEAD, too", x.count(6), 1);
        is("MAIN out, too", x.count(5), 0);
        is("put in: still DEAD", x.mains(), 0);
        x = Due.box("m60;b20;b20;b20;t0,20,1;t1,20,1;t2,20,1;");
        for (int i = 0; i < 69; i++) {
            x.minutes(24);
        }
        is("USED", x.count(7), 99360);
        is("USED later", x.later(10, 2), 99960);
        is("99999 at most, later", x.later(11, 2), 99999);
        x.minutes(24);
        is("99999 at most", x.count(7), 99999);
        is("no more", x.later(1, 2), 99999);
    }

    private static void promise10() {
        at("promise 10");
        FuseBox x = Due.box("m60;w5;b1;t0,5,1;t1,2,0;t0,1,0;");
        is("it is on", x.turn(0, 1), STATE);
        is("it is off", x.turn(1, 0), STATE);
        is("BAD", x.turn(3, 1), BAD);
        is("BAD", x.turn(-1, 1), BAD);
        is("BAD", x.turn(0, 2), BAD);
        is("BAD", x.turn(0, -1), BAD);
        is("no ACT yet", x.count(8), 0);
        is("on", x.turn(2, 1), 5);
        is("an ACT", x.count(8), 1);
        is("on", x.turn(1, 1), 7);
        x.minutes(1);
        is("ON, but its LINE is DEAD", x.thing(1, 2) * 10 + x.thing(1, 3), 10);
        is("off", x.turn(0, 0), 4);
        is("without a house", new FuseBox().turn(0, 2), BAD);
    }

    private static void promise11() {
        at("promise 11");
        FuseBox x = Due.box("m60;w5;w9;t0,5,1;t1,2,0;");
        is("it is there", x.plug(0, 0), STATE);
        is("BAD", x.plug(0, 2), BAD);
        is("BAD", x.plug(0, -1), BAD);
        is("BAD", x.plug(2, 0), BAD);
        is("BAD", x.plug(-1, 0), BAD);
        is("plug(0, 1)", x.plug(0, 1), 0);
        is("FLOW", x.line(1, 4), 5);
        is("FLOW", x.line(0, 4), 0);
        is("both", x.line(1, 5), 3);
        is("an off one", x.plug(1, 0), 1);
        is("ACTS", x.count(8), 2);
    }

    private static void promise12() {
        at("promise 12");
        FuseBox x = Due.box("m60;w1;b1;c1;t0,11,1;t1,2,1;t2,2,1;");
        is("not DEAD", x.mend(0), STATE);
        is("BAD", x.mend(3), BAD);
        is("BAD", x.mend(-1), BAD);
        x.minutes(1);
        is("all are DEAD", x.count(6), 7);
        is("HEAT", x.line(0, 1), 10);
        is("mend(0)", x.mend(0), 6);
        is("HEAT 0", x.line(0, 1), 0);
        is("mend(2)", x.mend(2), 2);
        is("no MINUTES yet", x.line(2, 2), 0);
        is("mend(1)", x.mend(1), 0);
        is("ACTS", x.count(8), 4);
        is("not LIVE is not DEAD", x.mend(1), STATE);
    }

    private static void promise13() {
        at("promise 13");
        is("no HOUSE", new FuseBox().mains(), STATE);
        FuseBox x = Due.box("m5;w9;b2;t0,4,1;t1,3,1;");
        is("it is in", x.mains(), STATE);
        is("out", x.minutes(1), 0);
        is("in, but line 1 is DEAD", x.mains(), 1);
        is("ACTS", x.count(8), 2);
        is("it is in", x.mains(), STATE);
    }

    private static void promise14() {
        at("promise 14");
        FuseBox x = Due.box("m60;w5;b1;t0,8,1;");
        is("BAD", x.rate(0, 0), BAD);
        is("BAD", x.rate(0, 21), BAD);
        is("BAD", x.rate(2, 1), BAD);
        is("BAD", x.rate(-1, 1), BAD);
        is("least", x.rate(0, 1), 5);
        is("most", x.rate(0, 20), 1);
        is("RATE", x.line(0, 0), 20);
        is("ACTS", x.count(8), 2);
        is("lost(0)", x.lost(0), NONE);
        is("the same is told, too", x.rate(0, 20), 20);
        is("and is an ACT", x.count(8), 3);
    }

    private static void promise15() {
        at("promise 15");
        FuseBox x = Due.box("m12;w5;c3;t0,8,1;t1,4,1;t1,2,0;");
        is("none", x.undo(), STATE);
        x.minutes(1);
        x.turn(2, 1);
        x.minutes(1);
        is("MAIN is in yet", x.count(5), 1);
        x.plug(2, 0);
        x.rate(0, 7);
        x.mend(1);
        x.minutes(1);
        is("MAIN is out now", x.count(5), 0);
        x.mains();
        int[] yet = {7, 6, 5, 4, 3, 2, 1, 0};
        int[] mainIn = {0, 1, 1, 1, 1, 1, 1, 1};
        int[] used = {34, 20, 20, 20, 20, 12, 12, 0};
        int[] rate = {7, 7, 7, 5, 5, 5, 5, 5};
        int[] coil = {3, 0, 2, 2, 2, 3, 3, 0};
        int[] heat = {9, 6, 6, 6, 6, 3, 3, 0};
        int[] plugged = {5, 5, 5, 5, 1, 1, 1, 1};
        for (int i = 0; i < 8; i++) {
            is("undo() " + i, x.undo(), yet[i]);
            is("MAIN in " + i, x.count(5), mainIn[i]);
            is("USED " + i, x.count(7), used[i]);
            is("RATE " + i, x.line(0, 0), rate[i]);
            is("MINUTES of the coil " + i, x.line(1, 2), coil[i]);
            is("HEAT " + i, x.line(0, 1), heat[i]);
            is("plugged " + i, x.line(0, 5), plugged[i]);
            is("ON " + i, x.thing(2, 2), i < 6 ? 1 : 0);
        }
        is("none", x.undo(), STATE);
        is("MINUTE", x.count(3), 0);
        oldestActsAreForgotten();
    }

    private static void oldestActsAreForgotten() {
        FuseBox x = Due.box("m60;w5;t0,5,1;");
        x.minutes(24);
        is("24", x.count(8), 24);
        x.minutes(2);
        x.turn(0, 0);
        is("24 at most", x.count(8), 24);
        for (int i = 23; i >= 0; i--) {
            is("undo()", x.undo(), i);
        }
        is("none", x.undo(), STATE);
        is("MINUTE", x.count(3), 3);
        is("USED", x.count(7), 15);
    }

    private static void promise16() {
        at("promise 16");
        FuseBox x = Due.box("m60;w5;b3;t0,8,1;t1,3,1;t0,2,0;");
        x.minutes(2);
        int[][] want = {{5, 6, 0, 1, 8, 5}, {3, 0, 0, 1, 3, 2}};
        for (int l = 0; l < 2; l++) {
            for (int what = 0; what < 6; what++) {
                is("line(" + l + ", " + what + ")", x.line(l, what), want[l][what]);
            }
        }
        x.rate(1, 2);
        x.minutes(1);
        is("DEAD", x.line(1, 2), 1);
        is("not LIVE", x.line(1, 3), 0);
        is("no FLOW", x.line(1, 4), 0);
        is("plugged all the same", x.line(1, 5), 2);
        is("BAD", x.line(2, 0), BAD);
        is("BAD", x.line(-1, 0), BAD);
        is("BAD", x.line(0, 6), BAD);
        is("BAD", x.line(0, -1), BAD);
    }

    private static void promise17() {
        at("promise 17");
        FuseBox x = Due.box("m60;w5;b3;t0,8,1;t1,4,1;t1,2,0;");
        x.minutes(1);
        int[][] want = {{0, 8, 1, 1}, {1, 4, 1, 0}, {1, 2, 0, 0}};
        for (int t = 0; t < 3; t++) {
            for (int what = 0; what < 4; what++) {
                is("thing(" + t + ", " + what + ")", x.thing(t, what), want[t][what]);
            }
        }
        is("BAD", x.thing(3, 0), BAD);
        is("BAD", x.thing(-1, 0), BAD);
        is("BAD", x.thing(0, 4), BAD);
        is("BAD", x.thing(0, -1), BAD);
    }

    private static void promise18() {
        at("promise 18");
        FuseBox x = Due.box("m60;w5;w9;t0,8,1;");
        x.minutes(1);
        is("now", x.heat(0, 0), 3);
        is("heat(0, 3)", x.heat(0, 3), 12);
        is("heat(0, 60)", x.heat(0, 60), 0);
        is("heat(1, 60)", x.heat(1, 60), 0);
        is("BAD", x.heat(0, 61), BAD);
        is("BAD", x.heat(0, -1), BAD);
        is("BAD", x.heat(2, 0), BAD);
        is("nothing changes", x.line(0, 1) + x.count(3) * 10 + x.count(8) * 100, 113);
    }

    private static void promise19() {
        at("promise 19");
        FuseBox none = new FuseBox();
        is("STATE ahead of BAD", none.later(-1, 0), STATE);
        FuseBox x = Due.box("m60;w5;c4;t0,8,1;t1,5,1;t1,5,0;");
        x.minutes(1);
        int[][] want = {{1, 1, 13}, {1, 1, 21}, {1, 1, 29}, {2, 2, 37}, {0, 0, 42}};
        for (int d = 0; d < 5; d++) {
            for (int what = 0; what < 3; what++) {
                is("later(" + d + ", " + what + ")", x.later(d, what), want[d][what]);
            }
        }
        is("BAD", x.later(61, 0), BAD);
        is("BAD", x.later(-1, 0), BAD);
        is("BAD", x.later(0, 3), BAD);
        is("BAD", x.later(0, -1), BAD);
        is("nothing changes", x.count(7), 13);
    }

    private static void promise20() {
        at("promise 20");
        FuseBox x = Due.box("m60;w5;b4;s1;s2;t0,8,1;t1,5,1;t2,3,1;t3,2,1;");
        is("a wire", x.lost(0), 4);
        is("a breaker", x.lost(1), 1);
        is("a slow one", x.lost(2), 10);
        is("never", x.lost(3), NONE);
        x.minutes(1);
        is("now", x.lost(1), 0);
        is("BAD", x.lost(4), BAD);
        is("BAD", x.lost(-1), BAD);
        is("OVER 1", Due.box("m60;w1;t0,2,1;").lost(0), 10);
        is("by MAIN", Due.box("m7;w9;t0,8,1;").lost(0), 1);
    }

    private static void promise21() {
        at("promise 21");
        is("STATE", new FuseBox().dark(), STATE);
        FuseBox x = Due.box("m60;w5;b4;t0,8,1;t1,5,1;t1,5,0;");
        is("dark()", x.dark(), 4);
        x.turn(0, 0);
        is("dark()", x.dark(), 1);
        x.turn(1, 0);
        is("nothing is ON", x.dark(), 0);
        x.turn(0, 1);
        x.rate(0, 8);
        is("never", x.dark(), NONE);
        is("by MAIN", Due.box("m7;w20;t0,8,1;").dark(), 1);
    }

    private static void promise22() {
        at("promise 22");
        FuseBox x = Due.box("m60;w5;w5;t0,5,1;t0,4,1;t1,3,1;t0,1,0;");
        is("none is needed", x.shed(0, 2, 0), 0);
        is("none", x.shed(0, 2, 1), 0);
        is("one", x.shed(0, 3, 0), 1);
        is("that one", x.shed(0, 3, 1), 2);
        is("the other line", x.shed(2, 30, 0), 0);
        is("it is off", x.shed(3, 1, 0), NONE);
        x = Due.box("m10;w20;w20;t0,6,1;t1,6,1;t1,4,1;");
        is("by MAIN", x.shed(0, 1, 1), 2);
        is("by MAIN", x.shed(2, 30, 1), 1);
        x = Due.box("m10;w20;t0,4,1;t0,4,1;t0,4,1;");
        is("of several the least", x.shed(0, 1, 1), 2);
        is("of several the least", x.shed(1, 1, 1), 1);
        x = Due.box("m60;w5;t0,3,1;t0,5,1;t0,2,1;t0,4,1;");
        is("two", x.shed(0, 30, 0), 2);
        is("these", x.shed(0, 30, 1), 10);
        x = Due.box("m60;b5;t0,6,1;t0,1,1;");
        is("too much by itself", x.shed(0, 1, 0), NONE);
        x.minutes(1);
        is("it does not RUN now", x.shed(1, 1, 0), NONE);
        x = Due.box("m60;c5;t0,6,1;t0,1,1;");
        x.minutes(3);
        is("the coil is not back now", x.shed(1, 1, 0), NONE);
        is("BAD", x.shed(2, 1, 0), BAD);
        is("BAD", x.shed(-1, 1, 0), BAD);
        is("BAD", x.shed(0, 0, 0), BAD);
        is("BAD", x.shed(0, 31, 0), BAD);
        is("BAD", x.shed(0, 1, 2), BAD);
        is("BAD", x.shed(0, 1, -1), BAD);
    }

    private static void promise23() {
        at("promise 23");
        is("STATE ahead of BAD", new FuseBox().plugs(0, -2), STATE);
        FuseBox x = Due.box("m60;b10;b10;t1,6,1;t0,6,1;t1,9,0;");
        is("one minute: all the same", x.plugs(1, -1), 12);
        is("so the first", x.plugs(1, 0) * 10 + x.plugs(1, 1), 0);
        is("two: one each", x.plugs(2, -1), 24);
        is("the first of these", x.plugs(2, 0) * 10 + x.plugs(2, 1), 1);
        is("off: as it is", x.plugs(2, 2), 1);
        is("nothing changes", x.line(1, 5), 5);
        is("BAD", x.plugs(0, -1), BAD);
        is("BAD", x.plugs(13, -1), BAD);
        is("BAD", x.plugs(1, -2), BAD);
        is("BAD", x.plugs(1, 3), BAD);
        // Main 10 and loads 6 and 5: both on lines that are live put main out; one of them on a dead line does not.
        x = Due.box("m10;b20;b1;t0,6,1;t0,5,1;t1,2,0;");
        is("both at once", x.plugs(2, -1), 11);
        is("so the first", x.plugs(12, 1), 0);
        x.turn(2, 1);
        x.turn(0, 0);
        x.turn(1, 0);
        x.rate(1, 1);
        x.minutes(1);
        is("line 1 is DEAD", x.count(6), 2);
        x.turn(0, 1);
        x.turn(1, 1);
        x.turn(2, 0);
        is("6 for twelve minutes", x.plugs(12, -1), 72);
        is("the 6", x.plugs(12, 0), 0);
        is("the 5 into the dead one", x.plugs(12, 1), 1);
        is("one minute", x.plugs(1, -1), 11);
        morePlugs();
        x = Due.box("m5;w9;w9;t1,6,1;");
        x.minutes(1);
        is("MAIN is out", x.plugs(12, -1), 0);
        is("the first", x.plugs(12, 0), 0);
    }

    private static void morePlugs() {
        FuseBox x = Due.box("m60;w1;t0,20,1;t0,20,1;t0,20,1;t0,20,1;t0,20,1;t0,20,1;");
        is("all there is, once", x.plugs(12, -1), 120);
        // On line 0 alone 12 is used until 2, 4, .. 10 melts it; one each is 8 and 4 for good.
        x = Due.box("m60;w10;w4;t1,8,1;t0,9,0;t0,4,1;");
        is("five minutes", x.plugs(5, -1), 60);
        is("so the first", x.plugs(5, 0) * 10 + x.plugs(5, 2), 0);
        is("twelve", x.plugs(12, -1), 144);
        is("one each", x.plugs(12, 0) * 10 + x.plugs(12, 2), 1);
        is("off: as it is", x.plugs(12, 1), 0);
        x.minutes(2);
        is("with HEAT 8 of line 1", x.line(1, 1), 8);
        is("one each", x.plugs(12, -1), 144);
        // Line 1 is dead; flow of line 0 is just main.
        x = Due.box("m10;b20;b1;t1,6,1;t0,10,0;");
        x.minutes(1);
        x.turn(1, 1);
        is("just main", x.plugs(12, -1), 120);
        is("the 6 into the dead one", x.plugs(12, 0) * 10 + x.plugs(12, 1), 10);
    }

    /** Three breakers, each with as much as it bears: 60 a minute, until USED of the house is as told. */
    private static FuseBox muchUsed(int minutes) {
        FuseBox x = Due.box("m60;b20;b20;b20;t0,20,1;t1,20,1;t2,20,1;");
        for (int left = minutes; left > 0; left -= 24) {
            x.minutes(Math.min(24, left));
        }
        return x;
    }

    private static void plugsAtTheLimit() {
        at("promise 23, USED of the house at its limit");
        int[] minutes = {1655, 1666, 1667, 1700};
        int[] used = {99300, 99960, 99999, 99999};
        for (int i = 0; i < minutes.length; i++) {
            FuseBox x = muchUsed(minutes[i]);
            is("USED", x.count(7), used[i]);
            is("one minute", x.plugs(1, -1), 60);
            is("all into the first", x.plugs(1, 0) * 100 + x.plugs(1, 1) * 10 + x.plugs(1, 2), 0);
            is("two", x.plugs(2, -1), 120);
            is("one each, the first such way", x.plugs(2, 0) * 100 + x.plugs(2, 1) * 10 + x.plugs(2, 2), 12);
            is("twelve", x.plugs(12, -1), 720);
            is("one each", x.plugs(12, 0) * 100 + x.plugs(12, 1) * 10 + x.plugs(12, 2), 12);
            x.plug(2, 0);
            is("also as all is plugged badly", x.plugs(12, 2), 2);
            is("nothing changes", x.count(7), used[i]);
        }
    }

    private static void promise24() {
        at("promise 24");
        FuseBox x = Due.box("m60;w5;b5;t0,8,1;t1,6,1;");
        is("holds(0, 1)", x.holds(0, 1), 1);
        is("holds(0, 2)", x.holds(0, 2), 4);
        is("holds(0, 9)", x.holds(0, 9), 7);
        is("holds(0, 10)", x.holds(0, 10), 8);
        is("holds(0, 30)", x.holds(0, 30), 8);
        is("holds(1, 1)", x.holds(1, 1), 6);
        x.minutes(1);
        is("it is DEAD", x.holds(1, 1), NONE);
        is("with HEAT 3 now", x.holds(0, 2), 5);
        x = Due.box("m60;b5;c5;t0,20,1;t0,20,1;t1,6,1;");
        is("no RATE is enough", x.holds(0, 1), NONE);
        is("the most is enough", Due.box("m60;b5;t0,20,1;").holds(0, 1), 20);
        x.minutes(3);
        is("a coil that is back behind one", x.holds(1, 1), 1);
        is("and stays", x.holds(1, 2), 6);
        is("BAD", x.holds(2, 1), BAD);
        is("BAD", x.holds(-1, 1), BAD);
        is("BAD", x.holds(0, 0), BAD);
        is("BAD", x.holds(0, 31), BAD);
        is("MAIN goes out", Due.box("m5;w9;t0,6,1;").holds(0, 1), NONE);
    }

    private static void promise25() {
        at("promise 25");
        FuseBox x = Due.box("m60;w5;w9;t0,4,1;t0,4,1;t0,1,1;t1,1,1;t0,1,0;");
        is("faulty(0, 30)", x.faulty(0, 30), 3);
        is("faulty(0, 2)", x.faulty(0, 2), 15);
        is("faulty(0, 3)", x.faulty(0, 3), 7);
        is("faulty(1, 30)", x.faulty(1, 30), 15);
        is("by MAIN", Due.box("m10;w9;w9;t0,6,1;t1,5,1;t1,1,1;").faulty(0, 5), 3);
        is("none", Due.box("m60;b1;t0,6,1;t0,5,1;").faulty(0, 1), 0);
        is("BAD", x.faulty(2, 1), BAD);
        is("BAD", x.faulty(-1, 1), BAD);
        is("BAD", x.faulty(0, 0), BAD);
        is("BAD", x.faulty(0, 31), BAD);
    }

    private static void promise26() {
        at("promise 26");
        FuseBox x = Due.box("m60;w20;b1;t1,9,1;t0,1,1;t0,9,0;t0,1,1;t0,1,1;");
        x.minutes(1);
        int[][] want = {{0, 0, 0, 0, 0}, {0, 1, 0, 0, 0}, {0, 1, 0, 1, 0}, {0, 1, 0, 1, 1}, {0, 2, 0, 1, 1}, {0, 333, 0, 333, 333}};
        int[] in = {0, 1, 2, 3, 4, 999};
        for (int i = 0; i < in.length; i++) {
            for (int t = 0; t < 5; t++) {
                is("bill(" + t + ", " + in[i] + ")", x.bill(t, in[i]), want[i][t]);
            }
        }
        is("BAD", x.bill(0, 1000), BAD);
        is("BAD", x.bill(0, -1), BAD);
        is("BAD", x.bill(5, 1), BAD);
        is("BAD", x.bill(-1, 1), BAD);
        x = Due.box("m60;w20;t0,7,1;t0,3,1;");
        is("by LOAD", x.bill(0, 15), 11);
        is("by LOAD", x.bill(1, 15), 4);
        x.turn(0, 0);
        x.turn(1, 0);
        is("none RUNS", x.bill(0, 9), 0);
    }

    private static void told(FuseBox x, int row, int... items) {
        x.row(row, 2, items.length);
        for (int i = 0; i < items.length; i++) {
            x.set(row, i, items[i]);
        }
    }

    private static void promise27() {
        at("promise 27");
        FuseBox x = Due.box("m30;w5;b20;t0,8,1;t1,4,1;");
        told(x, 0, 7, 3, 6, 9, 12, 11);
        is("a wire, a quick one", x.fits(0, 0, 1, 5, 0), 10);
        is("RATES", x.fits(0, 0, 1, 5, 1), 1 << 5);
        is("HEATS", x.fits(0, 0, 1, 5, 2), 1);
        is("MAINS", x.fits(0, 0, 1, 5, 3), 49);
        is("the least", x.fits(0, 0, 1, 5, 4), 12);
        is("MAINS by one", x.fits(0, 0, 1, 1, 3), 60);
        is("none", x.fits(0, 0, 0, 2, 3), 0);
        is("the least of none", x.fits(0, 0, 0, 2, 4), NONE);
        is("status()", x.status(), 0);
        told(x, 1, 1);
        is("a slow one", x.fits(0, 1, 0, 1, 0), 1 << 2);
        told(x, 2, 7, 6, 5);
        is("HEATS, as nothing heats: a breaker's stays", x.fits(1, 2, 0, 1, 2), 1 << 7);
        x.turn(0, 0);
        is("HEATS, as it cools", x.fits(0, 2, 0, 3, 2), 1 << 8);
        told(x, 3, 9);
        is("HEATS, up to 9", x.fits(0, 3, 0, 1, 2), 0);
        told(x, 3, 0, 0);
        is("HEATS, 0 and 1", x.fits(0, 3, 0, 2, 2), 3);
        is("all KINDS", x.fits(0, 3, 0, 2, 0), 62);
        is("all RATES", x.fits(0, 3, 0, 2, 1), (1 << 21) - 2);
        is("BAD", x.fits(2, 0, 0, 1, 0), BAD);
        is("BAD", x.fits(-1, 0, 0, 1, 0), BAD);
        is("BAD", x.fits(0, 8, 0, 1, 0), BAD);
        is("BAD", x.fits(0, -1, 0, 1, 0), BAD);
        is("BAD", x.fits(0, 0, 0, 0, 0), BAD);
        is("BAD", x.fits(0, 0, 0, 13, 0), BAD);
        is("BAD", x.fits(0, 0, 0, -1, 0), BAD);
        is("BAD", x.fits(0, 0, 0, 1, 5), BAD);
        is("BAD", x.fits(0, 0, 0, 1, -1), BAD);
        is("BAD ahead of NULL", x.fits(0, 7, 0, 1, 5), BAD);
        is("NULL ahead of PLACE", x.fits(0, 7, -1, 1, 0), NULL);
        is("PLACE", x.fits(0, 0, 2, 5, 0), PLACE);
        is("PLACE", x.fits(0, 0, -1, 1, 0), PLACE);
        is("PLACE", x.fits(0, 0, Integer.MAX_VALUE, 12, 0), PLACE);
        is("status()", x.status(), 2);
        is("nothing changes", x.count(3) + x.line(0, 1) + x.kind(0), 1);
    }

    private static void sortsOfDeadLines() {
        at("promise 27, DEAD lines");
        // A breaker that is dead; taken as a coil it comes back behind 3, and is dead again behind 4.
        FuseBox x = Due.box("m60;b4;t0,5,1;");
        x.minutes(1);
        told(x, 0, 0, 0, 0, 0, 0);
        is("none of them heats", x.fits(0, 0, 0, 5, 0), 62);
        // A wire that is dead with heat 12: as a coil its heat is 11, 10, 9 and stays so for a minute.
        x = Due.box("m60;w5;t0,8,1;");
        x.minutes(4);
        told(x, 0, 11, 10, 9, 9, 8, 7, 6, 6);
        is("a coil alone", x.fits(0, 0, 0, 8, 0), 1 << 5);
        told(x, 0, 11, 10, 9, 8);
        is("all but a coil", x.fits(0, 0, 0, 4, 0), 30);
        is("all of them", x.fits(0, 0, 0, 3, 0), 62);
        // A coil that is dead for 2 minutes yet; as another it is dead for good, and does not heat up.
        x = Due.box("m60;c4;t0,5,1;");
        x.minutes(2);
        is("2 yet", x.line(0, 2), 2);
        told(x, 0, 0, 0, 0, 0, 0, 0);
        is("as a coil it is as it is", x.fits(0, 0, 0, 6, 0), 62);
    }

    private static void fraction(FuseBox x, int line, int n, int c, int above, int below) {
        is("chance(" + line + ", " + n + ", " + c + ", 0)", x.chance(line, n, c, 0), above);
        is("chance(" + line + ", " + n + ", " + c + ", 1)", x.chance(line, n, c, 1), below);
    }

    private static void promise28() {
        at("promise 28");
        FuseBox x = Due.box("m60;w5;b20;t0,4,1;t0,4,1;t0,9,0;");
        fraction(x, 0, 30, 5, 3, 4);
        fraction(x, 0, 30, 3, 51, 100);
        fraction(x, 0, 30, 0, 0, 1);
        fraction(x, 0, 30, 10, 1, 1);
        fraction(x, 0, 3, 5, 1, 1);
        fraction(x, 0, 4, 5, 3, 4);
        fraction(x, 0, 0, 5, 1, 1);
        fraction(x, 1, 60, 5, 1, 1);
        // A coil is live again behind minute 4.
        fraction(Due.box("m60;c5;t0,6,1;"), 0, 4, 5, 1, 1);
        fraction(Due.box("m60;c5;t0,6,1;"), 0, 3, 2, 1, 5);
        fraction(Due.box("m60;b5;t0,6,1;t0,6,1;t0,6,1;t0,6,1;t0,6,1;t0,6,1;"), 0, 1, 9, 531441, 1000000);
        fraction(Due.box("m60;b5;t0,6,0;"), 0, 60, 7, 1, 1);
        is("BAD", x.chance(2, 1, 1, 0), BAD);
        is("BAD", x.chance(-1, 1, 1, 0), BAD);
        is("BAD", x.chance(0, 61, 1, 0), BAD);
        is("BAD", x.chance(0, -1, 1, 0), BAD);
        is("BAD", x.chance(0, 1, 11, 0), BAD);
        is("BAD", x.chance(0, 1, -1, 0), BAD);
        is("BAD", x.chance(0, 1, 1, 2), BAD);
        is("BAD", x.chance(0, 1, 1, -1), BAD);
    }

    private static void promise29() {
        at("promise 29");
        is("STATE ahead of BAD", new FuseBox().drawn(-1, 0, 2), STATE);
        // From 1: 16807, 282475249, 1622650073, 984943658 do nothing, 1144108930 mends.
        FuseBox x = Due.box("m60;b5;t0,6,1;");
        is("drawn(0, 1, 0)", x.drawn(0, 1, 0), 0);
        is("drawn(0, 1, 1)", x.drawn(0, 1, 1), 1);
        is("drawn(1, 1, 0)", x.drawn(1, 1, 0), 6);
        is("drawn(4, 1, 0)", x.drawn(4, 1, 0), 6);
        is("drawn(5, 1, 0)", x.drawn(5, 1, 0), 12);
        is("drawn(5, 1, 1)", x.drawn(5, 1, 1), 0);
        x.minutes(1);
        is("what is USED in them alone", x.drawn(5, 1, 0), 6);
        is("nothing changes", x.count(7) * 10 + x.count(6), 61);
        is("MAIN is put in, too", Due.box("m5;b6;t0,6,1;").drawn(5, 1, 0), 12);
        // From 3: 50421 is three times 16807, and odd.
        is("turned off", Due.box("m60;b5;t0,6,1;").drawn(1, 3, 0), 0);
        is("turned on", Due.box("m60;b5;t0,6,0;").drawn(1, 3, 0), 6);
        is("the second of two", Due.box("m60;b9;t0,6,1;t0,3,1;").drawn(1, 3, 0), 6);
        is("LIVE", Due.box("m60;b8;c3;t0,6,1;t0,3,0;").drawn(1, 3, 1), 1);
        is("BAD", x.drawn(61, 1, 0), BAD);
        is("BAD", x.drawn(-1, 1, 0), BAD);
        is("BAD", x.drawn(1, 0, 0), BAD);
        is("BAD", x.drawn(1, 1000000, 0), BAD);
        is("BAD", x.drawn(1, 1, 2), BAD);
        is("BAD", x.drawn(1, 1, -1), BAD);
        DUE.holds("the largest seed", x.drawn(60, 999999, 0) >= 0);
    }

    private static void drawnAtTheLimit() {
        at("promise 29, USED of the house at its limit");
        int[] minutes = {1655, 1666, 1667, 1700};
        int[] used = {99300, 99960, 99999, 99999};
        for (int i = 0; i < minutes.length; i++) {
            FuseBox x = muchUsed(minutes[i]);
            is("USED", x.count(7), used[i]);
            is("none", x.drawn(0, 1, 0), 0);
            is("one", x.drawn(1, 1, 0), 60);
            // Nothing is turned in the first five from 1 on, see above; 50421, from 3, turns thing 0 off.
            is("five", x.drawn(5, 1, 0), 300);
            is("LIVE", x.drawn(5, 1, 1), 3);
            is("one turned off", x.drawn(1, 3, 0), 40);
            is("nothing changes", x.count(7), used[i]);
        }
        FuseBox x = muchUsed(1700);
        x.plug(2, 0);
        is("behind the first line 0 is DEAD: 60, then 20 each", x.drawn(4, 1, 0), 120);
    }

    private static void promise30() {
        at("promise 30");
        FuseBox x = new FuseBox();
        is("BAD ahead of STATE", x.image(2), BAD);
        is("BAD", x.image(-1), BAD);
        is("STATE", x.image(0), STATE);
        x = Due.box("m60;w5;t0,8,1;");
        is("image(0)", x.image(0), 1);
        is("no ACT", x.count(8), 0);
        is("the other was not kept", x.restore(1), STATE);
        x.minutes(2);
        is("image(0) anew", x.image(0), 1);
        x.minutes(1);
        x.restore(0);
        is("HEAT", x.line(0, 1), 6);
    }

    private static void promise31() {
        at("promise 31");
        FuseBox x = new FuseBox();
        is("BAD", x.restore(2), BAD);
        is("BAD", x.restore(-1), BAD);
        is("STATE", x.restore(1), STATE);
        x = Due.box("m20;w5;c4;t0,8,1;t1,6,1;t1,1,0;");
        x.minutes(2);
        x.image(1);
        x.turn(2, 1);
        x.plug(0, 1);
        x.rate(0, 9);
        x.mend(1);
        x.minutes(3);
        Due.feed(x, "m9;b1;t0,1,1;");
        x.house();
        x.minutes(4);
        is("restore(1)", x.restore(1), 1);
        int[] counts = {0, 2, 3, 2, 20, 1, 2, 22, 0, 0};
        for (int what = 0; what < 10; what++) {
            is("count(" + what + ")", x.count(what), counts[what]);
        }
        int[] line0 = {5, 6, 0, 1, 8, 1};
        int[] line1 = {4, 0, 2, 0, 0, 6};
        for (int what = 0; what < 6; what++) {
            is("line(0, " + what + ")", x.line(0, what), line0[what]);
            is("line(1, " + what + ")", x.line(1, what), line1[what]);
        }
        is("off", x.thing(2, 2), 0);
        is("KIND", x.kind(1), 5);
        is("no ACT can be undone", x.undo(), STATE);
        x.minutes(1);
        is("again", x.restore(1), 1);
        is("as it was kept", x.count(3), 2);
    }

    private static void promise32() {
        at("promise 32");
        FuseBox x = Due.box("m60;w5;s5;q5;b5;t0,1,1;");
        for (int l = 0; l < 4; l++) {
            is("kind(" + l + ")", x.kind(l), l + 1);
        }
        is("BAD", x.kind(4), BAD);
        is("BAD", x.kind(-1), BAD);
        is("a coil", Due.box("m60;c5;t0,1,1;").kind(0), 5);
    }

    private static void promise33() {
        at("promise 33");
        FuseBox x = Due.box("m60;w5;s5;q5;b5;t0,1,1;");
        String[] is = {"110000", "111000", "110100", "100010"};
        for (int l = 0; l < 4; l++) {
            for (int k = 0; k < 6; k++) {
                boolean so = is[l].charAt(k) == '1';
                is("as(" + l + ", " + k + ")", x.as(l, k), so ? l : KIND);
                is("status()", x.status(), so ? 0 : 3);
            }
        }
        FuseBox y = Due.box("m60;b5;c5;t0,1,1;");
        for (int k = 0; k < 6; k++) {
            is("as(1, " + k + ")", y.as(1, k), "100011".charAt(k) == '1' ? 1 : KIND);
        }
        is("BAD", x.as(4, 0), BAD);
        is("BAD", x.as(-1, 0), BAD);
        is("BAD", x.as(0, 6), BAD);
        is("BAD", x.as(0, -1), BAD);
    }

    private static void asked(FuseBox x, int line, int what, int answer, int... bodies) {
        is("ask(" + line + ", " + what + ")", x.ask(line, what), answer);
        for (int i = 0; i < bodies.length; i++) {
            is("trace(" + i + ")", x.trace(i), bodies[i]);
        }
        is("trace behind the last", x.trace(bodies.length), NONE);
    }

    private static void promise34and35() {
        at("promises 34 and 35");
        FuseBox x = Due.box("m60;w6;s5;q7;c4;t0,8,1;t1,9,1;t2,8,1;t3,3,1;");
        x.minutes(2);
        asked(x, 0, 0, 10, 11, 10, 21, 20);
        asked(x, 0, 1, 4, 21, 20);
        asked(x, 1, 0, -15, 12, 11, 10, 24, 21, 20);
        asked(x, 1, 1, 10, 24, 21, 20);
        asked(x, 2, 0, -989, 11, 10, 22, 21, 20);
        asked(x, 2, 1, -996, 22, 21, 20);
        asked(x, 3, 0, -192, 14, 13, 10);
        asked(x, 3, 1, 195, 23, 20, 14, 13, 10);
        is("BAD", x.ask(4, 0), BAD);
        is("BAD", x.ask(-1, 0), BAD);
        is("BAD", x.ask(0, 2), BAD);
        is("BAD", x.ask(0, -1), BAD);
        is("what is refused changes nothing", x.trace(4), 10);
        is("below", x.trace(-1), NONE);
        is("far off", x.trace(Integer.MAX_VALUE), NONE);
        FuseBox y = Due.box("m60;w1;b4;t0,1,1;");
        asked(y, 1, 0, -96, 13, 10);
        asked(y, 1, 1, 97, 23, 20, 13, 10);
    }

    private static void promise36() {
        at("promise 36");
        FuseBox x = Due.box("m8;w5;b1;t0,5,1;t1,4,1;t1,1,0;");
        x.row(2, 0, 1);
        x.row(5, 0, 0);
        x.minutes(3);
        x.feed(1);
        int[] counts = {2, 2, 3, 3, 8, 0, 2, 9, 3, 1};
        for (int what = 0; what < 10; what++) {
            is("count(" + what + ")", x.count(what), counts[what]);
        }
        is("BAD", x.count(10), BAD);
        is("BAD", x.count(-1), BAD);
    }

    private static void promise37() {
        at("promise 37");
        FuseBox x = Due.box("m60;b5;t0,1,1;");
        is("none yet", x.status(), 0);
        x.drop(0);
        is("NULL", x.status(), 1);
        x.row(0, 0, 41);
        x.set(8, 0, 0);
        x.copy(0, 0, 8, 0, 0);
        x.drop(-1);
        x.fits(0, 8, 0, 1, 0);
        x.as(0, 6);
        is("BAD does not count", x.status(), 1);
        x.minutes(1);
        x.line(0, 0);
        x.undo();
        x.undo();
        is("nor do other calls", x.status(), 1);
        x.as(0, 4);
        is("as()", x.status(), 0);
        x.as(0, 5);
        is("KIND", x.status(), 3);
        x.row(0, 0, 2);
        is("row()", x.status(), 0);
        x.row(0, 0, -1);
        is("SIZE", x.status(), 4);
        x.set(0, 0, 0);
        is("set()", x.status(), 0);
        x.set(0, 2, 0);
        is("PLACE", x.status(), 2);
        x.copy(0, 0, 0, 0, 0);
        is("copy()", x.status(), 0);
        x.row(1, 1, 2);
        x.copy(0, 0, 1, 0, 0);
        is("STORE", x.status(), 5);
        x.fits(0, 0, 0, 1, 4);
        is("fits()", x.status(), 0);
        x.fits(0, 0, 2, 1, 4);
        is("PLACE", x.status(), 2);
        x.drop(0);
        is("drop()", x.status(), 0);
    }
}
