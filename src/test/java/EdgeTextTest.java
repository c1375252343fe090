/** The boundary cases of texts (section 1, promises 6 to 8), sentence by sentence. */
public final class EdgeTextTest {
    private static final int BAD = -1000001, STATE = -1000002, FULL = -1000003;
    /** All numbers have one figure, so that each of its bytes is a token. */
    private static final String PLAIN = "m9;w8;t0,7,1;";
    /** The longest text that is a house. */
    private static final String LONGEST = "m60;w20;s20;q20;b20;t00,20,01;t01,20,01;t02,20,01;t03,20,01;t00,20,00;t03,20,00;";

    private static final Due DUE = new Due();

    public static void main(String[] args) {
        ninetyBytes();
        bytes();
        nothingElse();
        lettersByThemselves();
        oneTokenOtherwise();
        twoFiguresAtMost();
        mains();
        rates();
        loads();
        linesOfThings();
        onAndOff();
        oneToFourLines();
        oneToSixThings();
        theEnd();
        longest();
        firstToken();
        leastOfOneToken();
        inPlaceOfTheOneBefore();
        nothingLeftBehind();
        latestFault();
        eachTextByItself();
        DUE.end();
    }

    private static void at(String sentence) {
        DUE.at(sentence);
    }

    private static void is(String call, long got, long want) {
        DUE.is(call, got, want);
    }

    private static FuseBox read(String text, int answer, int fault) {
        FuseBox x = new FuseBox();
        Due.feed(x, text);
        is("house() of " + text, x.house(), answer);
        is("fault() of " + text, x.fault(), fault);
        is("the tape, empty then", x.count(9), 0);
        is("LINES", x.count(1), Math.max(0, answer));
        return x;
    }

    private static void faulty(String text, int place, int fault) {
        read(text, -1000100 - place, fault);
    }

    private static String times(String part, int n) {
        return part.repeat(n);
    }

    private static void ninetyBytes() {
        at("THE TAPE has at most 90 bytes, that come one by one");
        FuseBox x = new FuseBox();
        is("none at first", x.count(9), 0);
        for (int round = 0; round < 2; round++) {
            for (int i = 1; i <= 90; i++) {
                is("byte " + i, x.feed('m'), i);
                is("bytes on the tape", x.count(9), i);
            }
            is("byte 91", x.feed('m'), FULL);
            is("bytes on the tape", x.count(9), 90);
            is("house()", x.house(), -1000101);
            is("the tape, empty then", x.count(9), 0);
        }
    }

    private static void bytes() {
        at("A byte (0 to 255) comes behind the tape: how many it has");
        FuseBox x = new FuseBox();
        for (int letter = 0; letter < 256; letter++) {
            is("feed(" + letter + ")", x.feed(letter), 1);
            is("house()", x.house(), letter == 'm' ? -1000101 : -1000100);
        }
        is("feed(-1)", x.feed(-1), BAD);
        is("feed(256)", x.feed(256), BAD);
        is("feed(256 + 'm')", x.feed(256 + 'm'), BAD);
        is("none came", x.count(9), 0);
    }

    private static boolean isSign(int letter) {
        return letter >= 'a' && letter <= 'z' || letter >= '0' && letter <= '9' || letter == ',' || letter == ';';
    }

    private static void nothingElse() {
        at("TOKENS: letters a to z, NUMBERS, SIGNS , and ; nothing else, no blanks");
        for (int letter = 0; letter < 256; letter++) {
            for (int place = 0; place <= PLAIN.length() && !isSign(letter); place++) {
                faulty(PLAIN.substring(0, place) + (char) letter + PLAIN.substring(place), place, 1);
            }
        }
    }

    private static void lettersByThemselves() {
        at("letters a to z (each by itself)");
        for (char letter = 'a'; letter <= 'z'; letter++) {
            boolean sort = "wsqbc".indexOf(letter) >= 0;
            if (letter != 'm') {
                faulty(letter + "9;w8;t0,7,1;", 0, 1);
            }
            read("m9;" + letter + "8;t0,7,1;", sort ? 1 : -1000103, sort ? 0 : 1);
            read("m9;w8;" + letter + "0;t0,7,1;", sort ? -1000107 : letter == 't' ? -1000108 : -1000106, sort ? 2 : 1);
            read("m9;w8;t0,7,1;" + letter, letter == 't' ? -1000114 : -1000113, 1);
            faulty("m9;w" + letter + "8;", 4, 1);
        }
        faulty("mm9;", 1, 1);
        faulty("m9;w8;tt0,7,1;", 7, 1);
        faulty("m9;ww8;", 4, 1);
    }

    private static void oneTokenOtherwise() {
        at("FAULT 1: it cannot stand there; a TOKEN too few, too many, another");
        int[] without = {0, 1, 2, 3, 4, 5, 6, 7, 7, 9, 9, 11, 12};
        int[] faultWithout = {1, 1, 1, 1, 1, 1, 1, 1, 2, 1, 2, 1, 1};
        int[] twice = {1, 1, 3, 4, 4, 6, 7, -1, 9, 9, 11, 11, 13};
        int[] faultTwice = {1, 2, 1, 1, 2, 1, 1, 0, 1, 2, 1, 2, 1};
        for (int i = 0; i < PLAIN.length(); i++) {
            String ahead = PLAIN.substring(0, i);
            String behind = PLAIN.substring(i + 1);
            char token = PLAIN.charAt(i);
            faulty(ahead + behind, without[i], faultWithout[i]);
            // Only LINE may be told as 00.
            read(ahead + token + token + behind, twice[i] < 0 ? 1 : -1000100 - twice[i], faultTwice[i]);
            for (char other : ",;mwtz".toCharArray()) {
                if (other != token && !(other == 't' && i == 3) && !(other == 'w' && i == 6)) {
                    faulty(ahead + other + behind, i, 1);
                }
            }
        }
        faulty("m9;t8;t0,7,1;", 3, 1);
        faulty("m9;w8;w0,7,1;", 7, 2);
        faulty("m9;w8;w1,7,1;", 8, 1);
        // A figure in place of a letter or sign; behind a number it makes that longer: too large, or a run of three.
        int[] places = {0, 2, 3, 5, 6, 8, 10, 12};
        int[] faultAt = {0, 1, 3, 4, 6, 7, 9, 11};
        int[] faults = {1, 2, 1, 2, 1, 1, 1, 2};
        for (int i = 0; i < places.length; i++) {
            faulty(PLAIN.substring(0, places[i]) + "9" + PLAIN.substring(places[i] + 1), faultAt[i], faults[i]);
        }
    }

    private static void twoFiguresAtMost() {
        at("NUMBERS (figures, 2 at most); a run of three figures, at its first");
        is("one", read("m7;w8;t0,7,1;", 1, 0).count(4), 7);
        is("two", read("m07;w08;t00,07,01;", 1, 0).count(4), 7);
        String[] ahead = {"m", "m9;w", "m9;w8;t", "m9;w8;t0,", "m9;w8;t0,7,"};
        for (String a : ahead) {
            faulty(a + "001" + ";", a.length(), 1);
            faulty(a + "100" + ",", a.length(), 1);
            faulty(a + "000", a.length(), 1);
            faulty(a + times("1", 90 - a.length()), a.length(), 1);
            faulty(a + "m11", a.length(), 1);
        }
        faulty("123", 0, 1);
        faulty("1", 0, 1);
        faulty("m9123", 1, 1);
        faulty("m12 3", 3, 1);
    }

    private static void mains() {
        at("law: m MAIN ; (1 to 60)");
        String[] bad = {"0", "00", "61", "62", "70", "99"};
        for (String v : bad) {
            faulty("m" + v + ";w1;t0,1,1;", 1, 2);
        }
        for (int v = 1; v <= 60; v++) {
            is("MAIN", read("m" + v + ";w1;t0,1,1;", 1, 0).count(4), v);
        }
        is("MAIN", read("m01;w1;t0,1,1;", 1, 0).count(4), 1);
    }

    private static void rates() {
        at("line: SORT RATE ; (1 to 20)");
        for (String sort : "w s q b c".split(" ")) {
            for (String v : new String[] {"0", "00", "21", "30", "99"}) {
                faulty("m9;" + sort + v + ";t0,1,1;", 4, 2);
                faulty("m9;w1;" + sort + v + ";t0,1,1;", 7, 2);
            }
            for (int v = 1; v <= 20; v++) {
                is("RATE", read("m9;" + sort + v + ";t0,1,1;", 1, 0).line(0, 0), v);
            }
        }
        is("RATE", read("m9;w1;w1;w1;c01;t0,1,1;", 4, 0).line(3, 0), 1);
    }

    private static void loads() {
        at("thing: t LINE , LOAD , ON ; (LOAD 1 to 20)");
        for (String v : new String[] {"0", "00", "21", "30", "99"}) {
            faulty("m9;w1;t0," + v + ",1;", 9, 2);
        }
        for (int v = 1; v <= 20; v++) {
            is("LOAD", read("m9;w1;t0," + v + ",1;", 1, 0).thing(0, 1), v);
        }
    }

    private static void linesOfThings() {
        at("thing: t LINE , LOAD , ON ; (one of the LINES)");
        for (int lines = 1; lines <= 4; lines++) {
            String ahead = "m9;" + times("w1;", lines) + "t";
            for (int line = 0; line < 100; line++) {
                String text = ahead + line + ",1,1;";
                if (line < lines) {
                    is("LINE", read(text, lines, 0).thing(0, 0), line);
                } else {
                    faulty(text, ahead.length(), 2);
                }
            }
            is("LINE", read(ahead + "0" + (lines - 1) + ",1,1;", lines, 0).thing(0, 0), lines - 1);
        }
    }

    private static void onAndOff() {
        at("thing: t LINE , LOAD , ON ; (0 off, 1 on)");
        for (int on = 0; on < 100; on++) {
            String text = "m9;w1;t0,1," + on + ";";
            if (on < 2) {
                is("ON", read(text, 1, 0).thing(0, 2), on);
            } else {
                faulty(text, 11, 2);
            }
        }
        is("ON", read("m9;w1;t0,1,00;", 1, 0).thing(0, 2), 0);
        is("ON", read("m9;w1;t0,1,01;", 1, 0).thing(0, 2), 1);
    }

    private static void oneToFourLines() {
        at("house: law line { line } thing { thing }; LINES 0 .. 3, 4 at most; FAULT 3 (its letter)");
        faulty("m9;", 3, 1);
        faulty("m9;t0,1,1;", 3, 1);
        for (int lines = 1; lines <= 4; lines++) {
            FuseBox x = read("m9;" + times("w1;", lines) + "t0,1,1;", lines, 0);
            is("the last", x.line(lines - 1, 0), 1);
            is("one more", x.line(lines, 0), BAD);
        }
        for (String sort : "w s q b c".split(" ")) {
            faulty("m9;w1;w1;w1;w1;" + sort, 15, 3);
            faulty("m9;w1;w1;w1;w1;" + sort + "1;t0,1,1;", 15, 3);
            faulty("m9;c20;b20;q20;s20;" + sort + "0", 19, 3);
            faulty("m9;w1;w1;w1;" + sort, 13, 1);
        }
        faulty("m9;w1;w1;w1;w1;w1;w1;w1;", 15, 3);
    }

    private static void oneToSixThings() {
        at("house: law line { line } thing { thing }; THINGS 0 .. 5, 6 at most; FAULT 3 (its letter)");
        faulty("m9;w1;", 6, 1);
        for (int things = 1; things <= 6; things++) {
            FuseBox x = read("m9;w1;" + times("t0,1,0;", things - 1) + "t0,7,1;", 1, 0);
            is("THINGS", x.count(2), things);
            is("the last", x.thing(things - 1, 1), 7);
            is("one more", x.thing(things, 1), BAD);
        }
        faulty("m9;w1;" + times("t0,1,1;", 7), 48, 3);
        faulty("m9;w1;" + times("t0,1,1;", 6) + "t", 48, 3);
        faulty("m9;w1;" + times("t0,1,1;", 6) + "tt", 48, 3);
        faulty("m9;w1;" + times("t0,1,1;", 6) + "w1;", 48, 1);
        faulty("m9;w1;" + times("t0,1,1;", 6) + ";", 48, 1);
    }

    private static void theEnd() {
        at("FAULT 1: the end: how many bytes there are");
        for (int n = 0; n < PLAIN.length(); n++) {
            faulty(PLAIN.substring(0, n), n, 1);
        }
        // A house ends behind any of its things.
        for (int n = 0; n <= LONGEST.length(); n++) {
            boolean whole = n >= 30 && n % 10 == 0;
            read(LONGEST.substring(0, n), whole ? 4 : -1000100 - n, whole ? 0 : 1);
        }
    }

    private static void longest() {
        at("texts as long as there is room for");
        is("bytes", LONGEST.length(), 80);
        FuseBox x = read(LONGEST, 4, 0);
        is("THINGS", x.count(2), 6);
        is("MAIN", x.count(4), 60);
        is("the last LINE", x.line(3, 5), 40);
        faulty(LONGEST + "t00,20,00;", 80, 3);
        faulty(LONGEST + "m60;w20;t0", 80, 1);
        faulty(LONGEST + times((char) 255 + "", 10), 80, 1);
        FuseBox y = new FuseBox();
        Due.feed(y, LONGEST + times("1", 20));
        is("what finds no room is not there", y.count(9), 90);
        is("house()", y.house(), -1000180);
    }

    private static void firstToken() {
        at("FAULTS, the first TOKEN that has one (its first byte)");
        faulty("m0;w0;", 1, 2);
        faulty("m61;x", 1, 2);
        faulty("m9;w99;w1;w1;w1;w1;", 4, 2);
        faulty("m9;w1;w1;w1;w1;w1;t9,", 15, 3);
        faulty("m9;w1;t1,99,9;", 7, 2);
        faulty("m9;w1;t0,99,9;", 9, 2);
        faulty("m9;w1;t0,20,9;x", 12, 2);
        faulty("m9,w0;", 2, 1);
        faulty("m60;w20;t00,99,1;", 12, 2);
        faulty("m60;w20;t00,123,1;", 12, 1);
    }

    private static void leastOfOneToken() {
        at("of one TOKEN the least");
        // A run of three is no token, and not as told; a number where none can stand is not as told, too.
        faulty("m999;", 1, 1);
        faulty("m000;", 1, 1);
        faulty("99", 0, 1);
        faulty("m9;w1;99", 6, 1);
        faulty("m9;w1;t0;99", 8, 1);
        // A line behind things cannot stand there, and there is no room for a fifth.
        faulty("m9;w1;w1;w1;w1;t0,1,1;w1;", 22, 1);
        faulty("m9;w1;" + times("t0,1,1;", 6) + "m", 48, 1);
    }

    private static void inPlaceOfTheOneBefore() {
        at("A HOUSE that is read stands in place of the one before: MINUTE 0, no LINE is DEAD, MAIN is in, HEAT of all FUSES is 0, "
            + "nothing was USED; no ACT can be undone");
        FuseBox x = Due.box("m9;w5;b1;c1;s3;t0,8,1;t1,2,1;t2,2,1;t3,7,1;");
        x.minutes(1);
        is("MAIN was out", x.count(5), 0);
        is("DEAD were", x.count(6), 6);
        is("HEAT was", x.line(0, 1) * 10 + x.line(3, 1), 32);
        foretell(x);
        Due.feed(x, "m9;w5;b1;c1;s3;t0,8,1;t1,2,1;t2,2,1;t3,7,1;");
        is("house()", x.house(), 4);
        is("MINUTE", x.count(3), 0);
        is("MAIN is in", x.count(5), 1);
        is("none is DEAD", x.count(6), 0);
        is("USED", x.count(7), 0);
        is("ACTS", x.count(8), 0);
        is("undo()", x.undo(), STATE);
        for (int l = 0; l < 4; l++) {
            is("HEAT", x.line(l, 1), 0);
            is("MINUTES yet", x.line(l, 2), 0);
            is("LIVE", x.line(l, 3), 1);
        }
    }

    /** What is foretold happens nowhere, so that a house that is read then knows nothing of it. */
    private static void foretell(FuseBox x) {
        x.drawn(60, 5, 0);
        x.chance(0, 60, 5, 0);
        DUE.holds("USED", x.later(2, 2) > 0);
    }

    private static void nothingLeftBehind() {
        at("A HOUSE that is read stands in place of the one before, a smaller one, a larger one");
        FuseBox x = Due.box("m60;w1;w1;w1;w1;t0,20,1;t1,20,1;t2,1,1;t3,2,1;t3,1,1;t3,1,1;");
        x.minutes(1);
        x.image(0);
        Due.feed(x, "m5;c7;t0,3,0;");
        is("house()", x.house(), 1);
        is("LINES, THINGS", x.count(1) * 10 + x.count(2), 11);
        is("line(1, 0)", x.line(1, 0), BAD);
        is("thing(1, 0)", x.thing(1, 0), BAD);
        is("things of line 0", x.line(0, 5), 1);
        is("KIND", x.kind(0), 5);
        is("LIVE", x.minutes(1), 1);
        x.restore(0);
        foretell(x);
        Due.feed(x, "m4;q2;b3;s4;c5;t3,1,0;t2,2,0;t1,3,0;t0,4,0;t0,5,0;t0,6,0;");
        is("house()", x.house(), 4);
        is("MINUTE, USED, DEAD", x.count(3) + x.count(7) + x.count(6), 0);
        is("MAIN is in", x.count(5), 1);
        for (int l = 0; l < 4; l++) {
            is("RATE", x.line(l, 0), l + 2);
            is("HEAT", x.line(l, 1), 0);
            is("not DEAD", x.line(l, 2), 0);
            is("FLOW", x.line(l, 4), 0);
        }
        for (int t = 0; t < 6; t++) {
            is("LINE", x.thing(t, 0), Math.max(0, 3 - t));
            is("LOAD", x.thing(t, 1), t + 1);
            is("off", x.thing(t, 2), 0);
        }
        is("the image is kept", x.restore(0), 1);
        is("HEAT of it", x.line(0, 1), 19);
    }

    private static void latestFault() {
        at("The number of the latest FAULT; 0 before one");
        FuseBox x = new FuseBox();
        is("before one", x.fault(), 0);
        Due.feed(x, PLAIN);
        is("before one, a text on the tape", x.fault(), 0);
        x.house();
        is("before one, a HOUSE that was read", x.fault(), 0);
        String[] texts = {"m0", "m9;w1;w1;w1;w1;w", "", "m9;w1;w1;w1;w1;w", "m99", "x"};
        int[] faults = {2, 3, 1, 3, 2, 1};
        for (int i = 0; i < texts.length; i++) {
            Due.feed(x, texts[i]);
            x.house();
            is("behind " + texts[i], x.fault(), faults[i]);
        }
        is("asked again", x.fault(), 1);
    }

    private static void eachTextByItself() {
        at("The tape, empty then, is read: nothing of a text before it is");
        String[] texts = {"", "m", "m9", "m9;", "m9;m", "m9;w", "m9;w1", "m9;w1;", "m9;w1;t", "m9;w1;t0", "m9;w1;t0,", "m9;w1;t0,1,1",
            "9", "?", ";", ",", "t", "w", "?9;w1;t0,1,1;", "9;w1;t0,1,1;", ";w1;t0,1,1;", "w1;t0,1,1;", "m?;w1;t0,1,1;", "m9?w1;t0,1,1;",
            "m9;?1;t0,1,1;", "m9;w1;?0,1,1;", "m9;w1;t0,1,1?", "m99", "m999", "m9;w1;w1;w1;w1;w", PLAIN};
        for (String before : texts) {
            for (String text : texts) {
                FuseBox alone = new FuseBox();
                Due.feed(alone, text);
                FuseBox x = new FuseBox();
                Due.feed(x, before);
                x.house();
                Due.feed(x, text);
                int want = alone.house();
                is("house() of " + text + " behind " + before, x.house(), want);
                if (want < 0) {
                    is("fault() of " + text + " behind " + before, x.fault(), alone.fault());
                }
            }
        }
    }
}
