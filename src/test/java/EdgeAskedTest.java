/** The boundary cases of what is asked (section 4, promises 1 and 32 to 37), sentence by sentence. */
public final class EdgeAskedTest {
    private static final int NONE = -1000000, BAD = -1000001;
    private static final int LEAST = Integer.MIN_VALUE, LARGEST = Integer.MAX_VALUE;

    private static final Due DUE = new Due();

    public static void main(String[] args) {
        newObject();
        objectsByThemselves();
        upTo512Calls();
        kinds();
        takenAs();
        sizes();
        marks();
        nearestBody();
        traceOfSixteen();
        traceIsEmptyAhead();
        traceStays();
        rowsCounted();
        houseCounted();
        deadCounted();
        actsCounted();
        tapeCounted();
        statusOfEach();
        statusOfOthers();
        DUE.end();
    }

    private static void at(String sentence) {
        DUE.at(sentence);
    }

    private static void is(String call, long got, long want) {
        DUE.is(call, got, want);
    }

    private static void newObject() {
        at("A new object: No HOUSE");
        FuseBox x = new FuseBox();
        for (int what = 0; what < 10; what++) {
            is("count(" + what + ")", x.count(what), 0);
        }
        is("status(), fault()", x.status() + x.fault(), 0);
        is("trace(0)", x.trace(0), NONE);
        is("line(0, 0)", x.line(0, 0), BAD);
        is("thing(0, 0)", x.thing(0, 0), BAD);
        is("undo()", x.undo(), -1000002);
        is("mains()", x.mains(), -1000002);
        is("restore(0)", x.restore(0), -1000002);
        is("restore(1)", x.restore(1), -1000002);
        is("house()", x.house(), -1000100);
    }

    private static void objectsByThemselves() {
        at("A new object, beside another");
        FuseBox x = Due.box("m60;w5;t0,8,1;");
        x.row(0, 0, 4);
        x.minutes(3);
        x.image(0);
        x.ask(0, 0);
        x.drop(1);
        newObject();
        FuseBox y = Due.box("m9;b1;t0,1,1;");
        y.minutes(2);
        is("the other is as it was", x.count(3) * 100 + x.line(0, 1) * 10 + x.status(), 391);
        is("its trace", x.trace(0), 11);
    }

    private static void upTo512Calls() {
        at("An object is used for at most 512 calls after it has been made");
        FuseBox x = Due.box("m60;w5;t0,8,1;");
        // 14 bytes and house() are 15 calls.
        for (int call = 16; call <= 511; call++) {
            is("turn, call " + call, x.turn(0, call % 2), call % 2);
        }
        is("the 512th", x.count(8), 24);
        FuseBox y = new FuseBox();
        for (int call = 1; call <= 511; call++) {
            is("row, call " + call, y.row(call % 8, call % 3, call % 41), call % 41);
        }
        is("the 512th", y.count(0), 8);
    }

    private static final String[] HOUSES = {"m60;w5;s5;q5;b5;t0,1,1;", "m60;c5;w5;s5;q5;t0,1,1;", "m60;b5;c5;w5;s5;t0,1,1;", "m60;c1;t0,1,1;"};
    private static final int[][] KINDS = {{1, 2, 3, 4}, {5, 1, 2, 3}, {4, 5, 1, 2}, {5}};

    private static void kinds() {
        at("The KIND of the FUSE of a LINE, as told (1 to 5)");
        for (int i = 0; i < HOUSES.length; i++) {
            FuseBox x = Due.box(HOUSES[i]);
            for (int l = 0; l < 4; l++) {
                is("kind(" + l + ") of " + HOUSES[i], x.kind(l), l < KINDS[i].length ? KINDS[i][l] : BAD);
            }
            is("kind(4)", x.kind(4), BAD);
            is("kind(-1)", x.kind(-1), BAD);
        }
    }

    private static void takenAs() {
        at("0 FUSE; 1 WIRE, a FUSE; 2 SLOW, a WIRE; 3 QUICK, a WIRE; 4 BREAKER, a FUSE; 5 COIL, a BREAKER");
        String[] so = {"", "110000", "111000", "110100", "100010", "100011"};
        for (int i = 0; i < HOUSES.length; i++) {
            FuseBox x = Due.box(HOUSES[i]);
            for (int l = 0; l < KINDS[i].length; l++) {
                for (int k = 0; k < 6; k++) {
                    boolean is = so[KINDS[i][l]].charAt(k) == '1';
                    is("as(" + l + ", " + k + ") of " + HOUSES[i], x.as(l, k), is ? l : -1000013);
                    is("status()", x.status(), is ? 0 : 3);
                }
                is("as(" + l + ", 6)", x.as(l, 6), BAD);
                is("as(" + l + ", -1)", x.as(l, -1), BAD);
            }
        }
    }

    private static void traces(FuseBox x, int... bodies) {
        for (int i = 0; i < bodies.length; i++) {
            is("trace(" + i + ")", x.trace(i), bodies[i]);
        }
        for (int i = bodies.length; i < 20; i++) {
            is("trace(" + i + ")", x.trace(i), NONE);
        }
    }

    /** Four lines of a sort, so that the last has the number 3. */
    private static FuseBox four(String sort, int rate) {
        return Due.box(("m60;S1;S1;S1;S" + rate + ";t0,1,0;").replace("S", sort));
    }

    private static void sizes() {
        at("0 SIZE: 10 RATE; 11 of WIRES: what 10 gives, and MARK; 12 0 less what 11 gives; 13 what 10 gives, less 100; 14 what 13 gives, twice");
        String[] sorts = {"w", "s", "q", "b", "c"};
        int[] ofFirst = {1, -1, -999, -99, -198};
        int[] ofLast = {23, -26, -977, -80, -160};
        int[][] bodies = {{11, 10, 21, 20}, {12, 11, 10, 24, 21, 20}, {11, 10, 22, 21, 20}, {13, 10}, {14, 13, 10}};
        for (int i = 0; i < 5; i++) {
            FuseBox x = four(sorts[i], 20);
            is("ask(0, 0) of " + sorts[i], x.ask(0, 0), ofFirst[i]);
            traces(x, bodies[i]);
            is("ask(3, 0) of " + sorts[i], x.ask(3, 0), ofLast[i]);
            traces(x, bodies[i]);
        }
    }

    private static void marks() {
        at("1 MARK: 20 the number; 21 and HEAT; 22 what 21 gives, less 1000; 23 what 20 gives, less SIZE; 24 what 21 gives, twice");
        String[] sorts = {"w", "s", "q", "b", "c"};
        int[] ofFirst = {0, 0, -1000, 99, 198};
        int[] ofLast = {3, 6, -997, 83, 163};
        int[][] bodies = {{21, 20}, {24, 21, 20}, {22, 21, 20}, {23, 20, 13, 10}, {23, 20, 14, 13, 10}};
        for (int i = 0; i < 5; i++) {
            FuseBox x = four(sorts[i], 20);
            is("ask(0, 1) of " + sorts[i], x.ask(0, 1), ofFirst[i]);
            traces(x, bodies[i]);
            is("ask(3, 1) of " + sorts[i], x.ask(3, 1), ofLast[i]);
            traces(x, bodies[i]);
        }
        // HEAT as high as it can be.
        FuseBox x = Due.box("m60;w1;w1;t1,20,1;t1,20,1;t1,20,1;t1,20,1;t1,20,1;t1,20,1;");
        x.minutes(1);
        is("MARK", x.ask(1, 1), 100);
        is("SIZE", x.ask(1, 0), 101);
        is("MARK of the other", x.ask(0, 1), 0);
        is("what 2", x.ask(1, 2), BAD);
        is("what -1", x.ask(1, -1), BAD);
    }

    private static void nearestBody() {
        at("the BODY told for the KIND begins, else that of the nearest KIND that it is, too; SIZE, MARK within others are asked of the same FUSE anew");
        // SIZE of a quick one is that of wires, MARK within it its own; MARK of a coil is that of breakers, SIZE within it its own.
        FuseBox x = Due.box("m60;b1;q7;c9;t1,9,1;");
        x.minutes(2);
        is("HEAT", x.line(1, 1), 4);
        is("SIZE of the quick one", x.ask(1, 0), 7 + 1 + 4 - 1000);
        is("MARK of the coil", x.ask(2, 1), 2 - 2 * (9 - 100));
        x.rate(2, 1);
        is("by its RATE now", x.ask(2, 1), 2 + 198);
    }

    private static void traceOfSixteen() {
        at("leaves its number in THE TRACE as it begins (the first 16); Number i of THE TRACE; NONE");
        // No ask begins more than six bodies, so that the sixteen are never full.
        FuseBox x = four("s", 20);
        for (int i : new int[] {LEAST, -1, 0, 1, 15, 16, LARGEST}) {
            is("before an ask, trace(" + i + ")", x.trace(i), NONE);
        }
        x.ask(3, 0);
        is("the first", x.trace(0), 12);
        is("the last", x.trace(5), 20);
        for (int i : new int[] {LEAST, -1, 6, 15, 16, 17, LARGEST}) {
            is("trace(" + i + ")", x.trace(i), NONE);
        }
    }

    private static void traceIsEmptyAhead() {
        at("THE TRACE is empty ahead of it");
        FuseBox x = Due.box("m60;s5;b5;w5;t0,1,1;");
        x.ask(0, 0);
        traces(x, 12, 11, 10, 24, 21, 20);
        x.ask(1, 0);
        traces(x, 13, 10);
        x.ask(2, 1);
        traces(x, 21, 20);
        for (int i = 0; i < 20; i++) {
            x.ask(0, 0);
        }
        traces(x, 12, 11, 10, 24, 21, 20);
    }

    private static void traceStays() {
        at("THE TRACE stays, as other calls come and asks are refused");
        FuseBox x = Due.box("m60;s5;b5;w5;t0,1,1;");
        x.ask(1, 1);
        x.ask(3, 0);
        x.ask(0, 2);
        x.kind(0);
        x.as(0, 5);
        x.minutes(1);
        x.undo();
        traces(x, 23, 20, 13, 10);
    }

    private static void rowsCounted() {
        at("How many: 0 ROWS");
        FuseBox x = new FuseBox();
        for (int r = 7; r >= 0; r--) {
            x.row(r, r % 3, 0);
            is("ROWS", x.count(0), 8 - r);
            x.row(r, 0, 40);
            is("in place of one", x.count(0), 8 - r);
        }
        x.drop(3);
        is("one is missing", x.count(0), 7);
        is("10", x.count(10), BAD);
        is("-1", x.count(-1), BAD);
    }

    private static void houseCounted() {
        at("How many: 1 LINES, 2 THINGS, 3 MINUTE, 4 MAIN, 5 whether MAIN is in (1, 0; 0 without a HOUSE)");
        is("without a HOUSE", new FuseBox().count(5), 0);
        FuseBox x = Due.box("m1;w9;t0,2,1;");
        is("the least", x.count(1) * 1000 + x.count(2) * 100 + x.count(4) * 10 + x.count(5), 1111);
        x.minutes(1);
        is("out", x.count(5), 0);
        is("MAIN is told all the same", x.count(4), 1);
        x.mains();
        is("in", x.count(5), 1);
        x = Due.box("m60;w9;w9;w9;w9;t0,1,0;t0,1,0;t0,1,0;t0,1,0;t0,1,0;t0,1,0;");
        is("the most", x.count(1) * 1000 + x.count(2) * 100 + x.count(4), 4660);
        is("MINUTE", x.count(3), 0);
        x.minutes(24);
        is("MINUTE", x.count(3), 24);
    }

    private static void deadCounted() {
        at("How many: 6 LINES (bits) that are DEAD, 7 USED");
        FuseBox x = Due.box("m60;b1;b1;b1;c1;t0,2,1;t1,2,1;t2,2,1;t3,2,1;");
        is("none", x.count(6) + x.count(7), 0);
        x.minutes(1);
        is("all", x.count(6), 15);
        is("USED", x.count(7), 8);
        x.minutes(3);
        is("the coil is back", x.count(6), 7);
        is("no more was USED", x.count(7), 8);
        x = Due.box("m1;b9;t0,2,1;");
        x.minutes(1);
        is("not LIVE, but not DEAD", x.count(6), 0);
    }

    private static void actsCounted() {
        at("How many: 8 ACTS that can be undone");
        FuseBox x = Due.box("m60;w9;t0,2,1;");
        for (int i = 0; i <= 50; i++) {
            is("ACTS", x.count(8), Math.min(24, i));
            x.turn(0, i % 2);
        }
        for (int i = 23; i >= 0; i--) {
            x.undo();
            is("ACTS", x.count(8), i);
        }
        x.undo();
        is("none", x.count(8), 0);
    }

    private static void tapeCounted() {
        at("How many: 9 bytes on the tape");
        FuseBox x = new FuseBox();
        for (int i = 0; i < 100; i++) {
            is("bytes", x.count(9), Math.min(90, i));
            x.feed(i);
        }
        x.house();
        is("none", x.count(9), 0);
    }

    private static FuseBox withStatus(int finding) {
        FuseBox x = Due.box("m60;b5;t0,1,1;");
        x.row(0, 0, 2);
        x.row(1, 1, 2);
        switch (finding) {
            case 1: x.drop(7); break;
            case 2: x.set(0, 2, 0); break;
            case 3: x.as(0, 5); break;
            case 4: x.row(0, 0, -1); break;
            case 5: x.copy(0, 0, 1, 0, 0); break;
            default: break;
        }
        is("status()", x.status(), finding);
        return x;
    }

    private static void statusOfEach() {
        at("Of the latest call with a ROW, or as(): the number of its FINDING; 0: it had none, or there was none");
        is("there was none", new FuseBox().status(), 0);
        for (int f = 0; f <= 5; f++) {
            FuseBox[] x = new FuseBox[7];
            for (int i = 0; i < 7; i++) {
                x[i] = withStatus(f);
            }
            x[0].row(2, 0, 0);
            x[1].set(0, 0, 0);
            x[2].copy(0, 0, 0, 0, 0);
            x[3].drop(0);
            x[4].fits(0, 0, 0, 1, 4);
            x[5].fits(0, 0, 0, 1, 0);
            x[6].as(0, 0);
            for (int i = 0; i < 7; i++) {
                is("it had none, call " + i + " behind " + f, x[i].status(), 0);
            }
        }
        FuseBox x = withStatus(4);
        // No MAIN fits: NONE is an answer of the call, not a finding.
        x.set(0, 0, 7);
        x.row(2, 0, -1);
        is("NONE", x.fits(0, 0, 0, 1, 4), NONE);
        is("status()", x.status(), 0);
    }

    private static void statusOfOthers() {
        at("status: calls that were BAD, STATE, FULL, and calls without a ROW, leave it");
        for (int f = 0; f <= 5; f++) {
            FuseBox x = withStatus(f);
            x.row(8, 0, 0);
            x.row(0, 3, 0);
            x.row(0, 0, 41);
            x.set(8, 0, 0);
            x.copy(8, 0, 0, 0, 0);
            x.copy(0, 0, 8, 0, 0);
            x.drop(8);
            x.fits(1, 0, 0, 1, 0);
            x.fits(0, 8, 0, 1, 0);
            x.fits(0, 0, 0, 0, 0);
            x.fits(0, 0, 0, 1, 5);
            x.as(1, 0);
            x.as(0, 6);
            is("BAD ones", x.status(), f);
            x.undo();
            x.mains();
            x.restore(0);
            x.mend(0);
            x.turn(0, 1);
            for (int i = 0; i < 91; i++) {
                x.feed(i);
            }
            is("STATE, FULL", x.status(), f);
            x.house();
            x.minutes(3);
            x.ask(0, 0);
            x.image(0);
            x.restore(0);
            x.heat(0, 0);
            x.shed(0, 1, 0);
            x.chance(0, 0, 0, 0);
            x.count(0);
            x.trace(0);
            x.kind(0);
            is("calls without a ROW", x.status(), f);
            is("status() itself", x.status(), f);
        }
    }
}
